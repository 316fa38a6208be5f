/-! FRAMES: the potential -/
section OQK
variable {N m t u v a b c g d r e : Nat} {kd ch nx rp lw hi : Nat → Int} {up y tg : Nat → Nat} {ks : List KT} {κ : KT} {Y Z D : Int} {X : Option Nat} {x : Nat}
def fL (d : Nat) : Int := ((29 * (20 - d) : Nat) : Int)
def fK (d : Nat) : Int := 420 + 29 * (d : Int)
theorem fL_0 : 0 ≤ fL d := Int.natCast_nonneg _
theorem fL_s (h : d < 20) : fL d = fL (d + 1) + 29 := by
  unfold fL
  omega
noncomputable def qS (N : Nat) (kd nx rp : Nat → Int) (up tg : Nat → Nat) (a b : Nat) : Nat := sg (pN kd nx rp) a b + sg (beN N kd nx rp up tg) a b
noncomputable def pnE (N : Nat) (kd nx rp : Nat → Int) (up tg : Nat → Nat) (d a b : Nat) : Int := if 0 < sg (mN kd nx rp) a b then 32 else if 0 < sg (lpN N kd nx rp up tg) a b then fK d else 0
noncomputable def Ev (N : Nat) (kd nx rp : Nat → Int) (up tg : Nat → Nat) (d a b : Nat) (Y : Int) : Int := (qS N kd nx rp up tg a b : Int) + max (fL d + ((min 4 (sg (imN kd nx rp) a b) : Nat) : Int)) (Y - pnE N kd nx rp up tg d a b)
theorem pn_0 : 0 ≤ pnE N kd nx rp up tg d a b := by
  unfold pnE fK
  (repeat' split) <;> omega
theorem pn_add (h1 : a ≤ b) (h2 : b ≤ c) : pnE N kd nx rp up tg d a c ≤ pnE N kd nx rp up tg d a b + pnE N kd nx rp up tg d b c := by
  unfold pnE fK
  rw [sg_add (f := (mN kd nx rp)) h1 h2, sg_add (f := (lpN N kd nx rp up tg)) h1 h2]
  (repeat' split) <;> omega
theorem Ev_mono (h : Y ≤ Z) : Ev N kd nx rp up tg d a b Y ≤ Ev N kd nx rp up tg d a b Z := by
  unfold Ev
  omega
theorem Ev_lip (h : Z ≤ Y + D) (hD : 0 ≤ D) : Ev N kd nx rp up tg d a b Z ≤ Ev N kd nx rp up tg d a b Y + D := by
  unfold Ev
  omega
theorem Ev_0 : 0 ≤ Ev N kd nx rp up tg d a b Y := by
  have := fL_0 (d := d)
  unfold Ev
  omega
theorem Ev_nil : Y ≤ Ev N kd nx rp up tg d a a Y := by
  have := fL_0 (d := d)
  unfold Ev pnE
  rw [sg_0 (f := (imN kd nx rp)), sg_0 (f := (mN kd nx rp)), sg_0 (f := (lpN N kd nx rp up tg)), if_neg (by decide), if_neg (by decide)]
  omega
theorem Ev_comp (h1 : a ≤ b) (h2 : b ≤ c) : Ev N kd nx rp up tg d a b (Ev N kd nx rp up tg d b c Y) ≤ Ev N kd nx rp up tg d a c Y := by
  have p1 := pn_add (N := N) (kd := kd) (nx := nx) (rp := rp) (up := up) (tg := tg) (d := d) h1 h2
  have p2 := pn_0 (N := N) (kd := kd) (nx := nx) (rp := rp) (up := up) (tg := tg) (d := d) (a := a) (b := b)
  have f0 := fL_0 (d := d)
  unfold Ev qS
  rw [sg_add (f := (pN kd nx rp)) h1 h2, sg_add (f := (beN N kd nx rp up tg)) h1 h2, sg_add (f := (imN kd nx rp)) h1 h2]
  omega
/-- a row's own number weighs nothing -/
theorem Ev_row (h : kd r = 18) (he : r < e) : Ev N kd nx rp up tg d r e Y = Ev N kd nx rp up tg d (r + 1) e Y := by
  have e1 : (pN kd nx rp) r = 0 := if_neg (fun z => (pur_I z).2 h)
  have e2 : (beN N kd nx rp up tg) r = 0 := if_neg (fun z => by omega)
  have e3 : (imN kd nx rp) r = 0 := if_neg (fun z => z.1.2 h)
  have e4 : (mN kd nx rp) r = 0 := if_neg (fun z => z.1.2 h)
  have e5 : (lpN N kd nx rp up tg) r = 0 := lpN_0 (fun z => by
    have := z.2.1
    omega)
  unfold Ev qS pnE
  rw [sg_h (f := (pN kd nx rp)) he, sg_h (f := (beN N kd nx rp up tg)) he, sg_h (f := (imN kd nx rp)) he, sg_h (f := (mN kd nx rp)) he, sg_h (f := (lpN N kd nx rp up tg)) he, e1, e2, e3, e4, e5, Nat.zero_add, Nat.zero_add, Nat.zero_add, Nat.zero_add, Nat.zero_add]
abbrev purA (kd nx : Nat → Int) (v : Nat) : Prop := v ≠ 0 ∧ (kd v = 14 ∨ ((kd v = 8 ∨ kd v = 9) ∧ nx (v + 1) = -1))
/-- what a round gains -/
noncomputable def rho (N : Nat) (kd nx rp : Nat → Int) (up tg : Nat → Nat) (m : Nat) : Int := if purA kd nx m ∧ kd m ≠ 14 ∧ sg (mN kd nx rp) (m + 1) (zE up N m) = 0 ∧ sg (lpN N kd nx rp up tg) (m + 1) (zE up N m) = 0 then ((min 27 (hN kd m + qS N kd nx rp up tg (m + 1) (zE up N m) - 297) : Nat) : Int) else 0
def rR (lw hi : Nat → Int) (m r : Nat) : Int := if hi m = -1 then max 0 (lw m - r) else max 0 (hi m - r)
theorem rho_b : 0 ≤ rho N kd nx rp up tg m ∧ rho N kd nx rp up tg m ≤ 27 := by
  unfold rho
  split
  · omega
  · omega
theorem rR_0 : 0 ≤ rR lw hi m r := by
  unfold rR
  split <;> omega
theorem rr_0 : 0 ≤ rR lw hi m r * rho N kd nx rp up tg m := Int.mul_nonneg rR_0 rho_b.1
/-- what is still to be gained behind; none: any place -/
noncomputable def VV (N : Nat) (kd nx rp lw hi : Nat → Int) (up tg : Nat → Nat) : List KT → Option Nat → Int
  | [], _ => 0
  | κ :: ks, X => if κ.1 = 1 then Ev N kd nx rp up tg (dOf ks) κ.2.1 (zE up N (up κ.2.1)) (VV N kd nx rp lw hi up tg ks X) else if κ.1 = 3 then max (VV N kd nx rp lw hi up tg ks none) (fL (dOf ks) + 40) + rR lw hi κ.2.1 (κ.2.2.1 + 1) * rho N kd nx rp up tg κ.2.1 - (if hi κ.2.1 = -1 ∧ lw κ.2.1 ≤ (κ.2.2.1 : Int) ∧ X = some κ.2.2.2 then rho N kd nx rp up tg κ.2.1 else 0) else if κ.1 = 6 ∨ κ.1 = 7 then VV N kd nx rp lw hi up tg ks (some κ.2.2.1) else VV N kd nx rp lw hi up tg ks X
theorem VV_c : VV N kd nx rp lw hi up tg (κ :: ks) X = if κ.1 = 1 then Ev N kd nx rp up tg (dOf ks) κ.2.1 (zE up N (up κ.2.1)) (VV N kd nx rp lw hi up tg ks X) else if κ.1 = 3 then max (VV N kd nx rp lw hi up tg ks none) (fL (dOf ks) + 40) + rR lw hi κ.2.1 (κ.2.2.1 + 1) * rho N kd nx rp up tg κ.2.1 - (if hi κ.2.1 = -1 ∧ lw κ.2.1 ≤ (κ.2.2.1 : Int) ∧ X = some κ.2.2.2 then rho N kd nx rp up tg κ.2.1 else 0) else if κ.1 = 6 ∨ κ.1 = 7 then VV N kd nx rp lw hi up tg ks (some κ.2.2.1) else VV N kd nx rp lw hi up tg ks X := rfl
theorem VV_0 : ∀ (ks : List KT) (X : Option Nat), 0 ≤ VV N kd nx rp lw hi up tg ks X := fun ks => by
  induction ks with
  | nil => exact fun _ => Int.le_refl 0
  | cons κ ks ih =>
    intro X
    rw [VV_c]
    by_cases h1 : κ.1 = 1
    · rw [if_pos h1]
      exact Ev_0
    · rw [if_neg h1]
      by_cases h3 : κ.1 = 3
      · rw [if_pos h3]
        have q1 := rho_b (N := N) (kd := kd) (nx := nx) (rp := rp) (up := up) (tg := tg) (m := κ.2.1)
        have q2 := rr_0 (N := N) (kd := kd) (nx := nx) (rp := rp) (up := up) (tg := tg) (lw := lw) (hi := hi) (m := κ.2.1) (r := κ.2.2.1 + 1)
        have q3 := fL_0 (d := dOf ks)
        split <;> omega
      · rw [if_neg h3]
        split
        · exact ih _
        · exact ih _
theorem VV_l : ∀ (ks : List KT) (X : Option Nat), VV N kd nx rp lw hi up tg ks X ≤ VV N kd nx rp lw hi up tg ks none ∧ VV N kd nx rp lw hi up tg ks none ≤ VV N kd nx rp lw hi up tg ks X + 27 := fun ks => by
  induction ks with
  | nil => exact fun _ => ⟨Int.le_refl 0, show (0 : Int) ≤ 0 + 27 by decide⟩
  | cons κ ks ih =>
    intro X
    rw [VV_c, VV_c]
    obtain ⟨i1, i2⟩ := ih X
    by_cases h1 : κ.1 = 1
    · rw [if_pos h1, if_pos h1]
      exact ⟨Ev_mono i1, Ev_lip i2 (by decide)⟩
    · rw [if_neg h1, if_neg h1]
      by_cases h3 : κ.1 = 3
      · rw [if_pos h3, if_pos h3]
        have q1 := rho_b (N := N) (kd := kd) (nx := nx) (rp := rp) (up := up) (tg := tg) (m := κ.2.1)
        rw [if_neg (show ¬ (hi κ.2.1 = -1 ∧ lw κ.2.1 ≤ (κ.2.2.1 : Int) ∧ (none : Option Nat) = some κ.2.2.2) from fun z => absurd z.2.2 (by simp))]
        split <;> omega
      · rw [if_neg h3, if_neg h3]
        split
        · omega
        · exact ⟨i1, i2⟩
/-- an atom, an item, a part, rows -/
noncomputable def v2 (N : Nat) (kd nx rp : Nat → Int) (up tg : Nat → Nat) (d m : Nat) (Y : Int) : Int := if purA kd nx m then (if kd m = 14 then (bc N kd nx rp up tg m : Int) + max (fL d) (Y - (if (lpN N kd nx rp up tg) m = 1 then fK d else 0)) else (hN kd m : Int) + Ev N kd nx rp up tg d (m + 1) (zE up N m) Y) else (qS N kd nx rp up tg (m + 1) (zE up N m) : Int) + max (fL d + (hN kd m : Int)) (Y - 36)
noncomputable def v1 (N : Nat) (kd nx rp : Nat → Int) (up tg : Nat → Nat) (d m : Nat) (Y : Int) : Int := if rp m = -1 then v2 N kd nx rp up tg d m Y else (qS N kd nx rp up tg (m + 1) (zE up N m) : Int) + max (fL d + (hN kd m : Int)) (Y - 36)
noncomputable def v3 (N : Nat) (kd nx rp : Nat → Int) (up tg : Nat → Nat) (d m : Nat) (Y : Int) : Int := if nx (m + 1) = -1 then Ev N kd nx rp up tg d (m + 1) (zE up N m) Y else max 0 ((qS N kd nx rp up tg (m + 1) (zE up N m) : Int) + max (fL d + 4) Y - 299)
noncomputable def v7 (N : Nat) (kd nx rp : Nat → Int) (up tg : Nat → Nat) (d r : Nat) (Y : Int) : Int := Ev N kd nx rp up tg d (r + 1) (zE up N r) Y
noncomputable def v8 (N : Nat) (kd nx rp : Nat → Int) (up tg : Nat → Nat) (d r : Nat) (Y : Int) : Int := max 0 ((qS N kd nx rp up tg r (zE up N (up r)) : Int) + max (fL d + 4) Y - 299)
noncomputable def v6 (N : Nat) (kd nx rp lw hi : Nat → Int) (up tg : Nat → Nat) (m r : Nat) (ks : List KT) : Int := max (VV N kd nx rp lw hi up tg ks none) (fL (dOf ks) + 40) + rR lw hi m r * rho N kd nx rp up tg m
noncomputable def v9 (N : Nat) (kd nx rp lw hi : Nat → Int) (up tg : Nat → Nat) (m r : Nat) (ks : List KT) (x : Nat) : Int := max 0 (v2 N kd nx rp up tg (dOf ks) m (VV N kd nx rp lw hi up tg ((3, m, r, x) :: ks) (some x)) - 297)
noncomputable def Vp (N : Nat) (kd nx rp lw hi : Nat → Int) (up tg : Nat → Nat) (kk m r : Nat) (ks : List KT) (x : Nat) : Int := match kk with
  | 0 => VV N kd nx rp lw hi up tg ks (some x)
  | 1 => v1 N kd nx rp up tg (dOf ks) m (VV N kd nx rp lw hi up tg ks (some x))
  | 2 => v2 N kd nx rp up tg (dOf ks) m (VV N kd nx rp lw hi up tg ks (some x))
  | 3 => v3 N kd nx rp up tg (dOf ks) m (VV N kd nx rp lw hi up tg ks (some x))
  | 6 => v6 N kd nx rp lw hi up tg m r ks
  | 7 => v7 N kd nx rp up tg (dOf ks) m (VV N kd nx rp lw hi up tg ks (some x))
  | 8 => v8 N kd nx rp up tg (dOf ks) m (VV N kd nx rp lw hi up tg ks (some x))
  | 9 => v9 N kd nx rp lw hi up tg m r ks x
  | _ => 0
theorem v2_0 : 0 ≤ v2 N kd nx rp up tg d m Y := by
  have := fL_0 (d := d)
  unfold v2
  by_cases z : purA kd nx m
  · rw [if_pos z]
    by_cases w : kd m = 14
    · rw [if_pos w]
      omega
    · rw [if_neg w]
      have := Ev_0 (N := N) (kd := kd) (nx := nx) (rp := rp) (up := up) (tg := tg) (d := d) (a := m + 1) (b := zE up N m) (Y := Y)
      omega
  · rw [if_neg z]
    omega
theorem v1_0 : 0 ≤ v1 N kd nx rp up tg d m Y := by
  have := fL_0 (d := d)
  unfold v1
  by_cases z : rp m = -1
  · rw [if_pos z]
    exact v2_0
  · rw [if_neg z]
    omega
theorem Vp_0 (kk m r : Nat) (ks : List KT) (x : Nat) : 0 ≤ Vp N kd nx rp lw hi up tg kk m r ks x := by
  unfold Vp
  split
  · exact VV_0 ks _
  · exact v1_0
  · exact v2_0
  · unfold v3
    split
    · exact Ev_0
    · omega
  · have := rr_0 (N := N) (kd := kd) (nx := nx) (rp := rp) (up := up) (tg := tg) (lw := lw) (hi := hi) (m := m) (r := r)
    have := fL_0 (d := dOf ks)
    unfold v6
    omega
  · exact Ev_0
  · unfold v8
    omega
  · unfold v9
    omega
  · exact Int.le_refl 0
/-- an item, its next told apart -/
theorem v1_Ev (hF : FRM N kd ch nx rp up y tg) (hm : m < N) (hI : isI kd m) : (bN nx m : Int) + v1 N kd nx rp up tg d m Y ≤ Ev N kd nx rp up tg d m (zE up N m) Y := by
  have zm := zE_in (up := up) hm
  have f0 := fL_0 (d := d)
  by_cases pu : pur kd nx rp m
  · have e1 : (pN kd nx rp) m = bN nx m + hN kd m := if_pos pu
    have e3 : (imN kd nx rp) m = 0 := if_neg (fun z => z.2 pu)
    have e4 : (mN kd nx rp) m = 0 := if_neg (fun z => z.2 pu)
    have pA : purA kd nx m := ⟨pu.1, pu.2.2⟩
    unfold v1 v2
    rw [if_pos pu.2.1, if_pos pA]
    by_cases k14 : kd m = 14
    · have zz1 : zE up N m = m + 1 := tr_c hF.1 hm (by
        have := hF.1.c2 m hm hI.2
        by_cases q : ch m = -1
        · exact q
        · have := this.mp q
          omega)
      have e2 : (beN N kd nx rp up tg) m = bc N kd nx rp up tg m := if_pos ⟨pu.1, k14, pu.2.1⟩
      have e5 : hN kd m = 0 := if_neg (by omega)
      have e6 : (lpN N kd nx rp up tg) m = 0 ∨ (lpN N kd nx rp up tg) m = 1 := by
        by_cases q : lpc N kd nx rp up tg m
        · exact Or.inr (lpN_1 q)
        · exact Or.inl (lpN_0 q)
      rw [if_pos k14]
      unfold Ev qS pnE
      rw [zz1, sg_1, sg_1, sg_1, sg_1, sg_1, e1, e2, e3, e4, e5]
      rcases e6 with q | q
      · rw [q, if_neg (show ¬ (0 : Nat) = 1 by decide), if_neg (show ¬ 0 < 0 by decide), if_neg (show ¬ 0 < 0 by decide)]
        omega
      · rw [q, if_pos rfl, if_neg (show ¬ 0 < 0 by decide), if_pos (show 0 < 1 by decide)]
        omega
    · have e2 : (beN N kd nx rp up tg) m = 0 := if_neg (fun z => k14 z.2.1)
      have e5 : (lpN N kd nx rp up tg) m = 0 := lpN_0 (fun z => k14 z.2.1)
      rw [if_neg k14]
      unfold Ev qS pnE
      rw [sg_h (f := (pN kd nx rp)) zm.1, sg_h (f := (beN N kd nx rp up tg)) zm.1, sg_h (f := (imN kd nx rp)) zm.1, sg_h (f := (mN kd nx rp)) zm.1, sg_h (f := (lpN N kd nx rp up tg)) zm.1, e1, e2, e3, e4, e5, Nat.zero_add, Nat.zero_add, Nat.zero_add, Nat.zero_add]
      omega
  · have e3 : (imN kd nx rp) m = bN nx m + hN kd m := if_pos ⟨hI, pu⟩
    have e4 : (mN kd nx rp) m = 1 := if_pos ⟨hI, pu⟩
    have b2 := bN_2 (nx := nx) (v := m)
    have h2 := hN_2 (kd := kd) (v := m)
    have ev : v1 N kd nx rp up tg d m Y = (qS N kd nx rp up tg (m + 1) (zE up N m) : Int) + max (fL d + (hN kd m : Int)) (Y - 36) := by
      unfold v1
      by_cases z : rp m = -1
      · rw [if_pos z]
        unfold v2
        rw [if_neg (fun w => pu ⟨w.1, z, w.2⟩)]
      · rw [if_neg z]
    rw [ev]
    unfold Ev qS pnE
    rw [sg_h (f := (pN kd nx rp)) zm.1, sg_h (f := (beN N kd nx rp up tg)) zm.1, sg_h (f := (imN kd nx rp)) zm.1, sg_h (f := (mN kd nx rp)) zm.1, e3, e4, if_pos (by omega)]
    omega
end OQK
