/-! FRAMES: the potential of a pattern that is kept; HSIM without it -/
section OQM
variable {Q k p N M m n w len x r t a b d : Nat} {φ ψ own up lo : Nat → Nat} {S T U : ev_St} {ks : List KT} {κ : KT}
def uK (p : Nat) (U : ev_St) (c : Nat) (m : Nat) : Int := U.1 c (320 * p + m)
def uT (p : Nat) (U : ev_St) (m : Nat) : Nat := (U.1 637 (10 * p + (U.1 628 (320 * p + m)).toNat)).toNat
theorem pf_g {kd : Nat → Int} : ∀ n, pf (g8N kd) n ≤ cn2 kd (fun _ => 0) 0 n := fun n => by
  induction n with
  | zero => exact Nat.le_refl _
  | succ n ih =>
    show pf (g8N kd) n + g8N kd n ≤ cn2 kd (fun _ => 0) 0 n + (if kd n = 8 ∧ 0 ≤ 0 then 1 else 0)
    have q : g8N kd n ≤ (if kd n = 8 ∧ 0 ≤ 0 then 1 else 0) := by
      by_cases z : kd n = 8 ∧ n ≠ 0
      · rw [show g8N kd n = 1 from if_pos z, if_pos ⟨z.1, Nat.le_refl 0⟩]
        exact Nat.le_refl 1
      · rw [show g8N kd n = 0 from if_neg z]
        exact Nat.zero_le _
    omega
theorem pf_i {kd : Nat → Int} (h0 : kd 0 = 9) : ∀ n, pf (itN kd) (n + 1) + 1 ≤ nrc kd (n + 1) := fun n => by
  induction n with
  | zero =>
    show 0 + itN kd 0 + 1 ≤ 0 + (if kd 0 = 18 then 0 else 1)
    rw [h0, if_neg (by decide), show itN kd 0 = 0 from if_neg (fun z => z.1 rfl)]
    decide
  | succ n ih =>
    show pf (itN kd) (n + 1) + itN kd (n + 1) + 1 ≤ nrc kd (n + 1) + (if kd (n + 1) = 18 then 0 else 1)
    unfold itN at ih ⊢
    by_cases z : kd (n + 1) = 18
    · rw [if_pos z, if_neg (fun y => y.2 z)]
      omega
    · rw [if_neg z]
      split <;> omega
theorem FRM_of (hA : STA k p N M φ ψ own up lo U) : ∃ y, FRM N (uK p U 625) (uK p U 626) (uK p U 627) (uK p U 630) up y (uT p U) := by
  have e : ∀ c m, 625 ≤ c → c ≤ 632 → (sft p U).1 c (3840 + m) = U.1 c (320 * p + m) := fun c m h1 h2 => sft_1 h1 h2
  obtain ⟨n1, n2, n3, n4⟩ := sa_num hA
  obtain ⟨_, _, _, _, _, _, _, y, y1, y2, _⟩ := hA.1
  obtain ⟨_, _, _, _, _, _, a9⟩ := hA.2.1
  have hU := hA.1.1.2.1.1
  have tre : TRE N (uK p U 625) (uK p U 626) (uK p U 627) up := by
    refine ⟨n1.1, n4.1, n4.2.1, hU.1, fun m hm => ?_, fun m hm h18 => ?_, fun m hm => ?_, fun m t u v hm hx h1 h2 hv hl => ?_, fun t h0 hm => ?_⟩
    · rcases sa_child hA hm with z | ⟨z1, z2, z3, z4, z5⟩
      · exact Or.inl z.1
      · exact Or.inr ⟨z1, z2, z3, z4⟩
    · have v := (hA.1.1.2.2.2.1.2 m hm).2.2.2
      rw [e 625 m (by omega) (by omega), e 626 m (by omega) (by omega)] at v
      exact v h18
    · rcases sa_next hA hm with z | ⟨t, z1, z2, z3, z4, z5, z6⟩
      · exact Or.inl z.1
      · exact Or.inr ⟨t, z1, z2, z3, z4, z5⟩
    · exact a9 m t u v hm ((e 627 m (by omega) (by omega)).trans hx) h1 h2 hv (by
        rw [e 626 v (by omega) (by omega), e 627 v (by omega) (by omega)]
        exact hl)
    · rcases hU.2.2.2 t h0 hm with z | ⟨s, z1, z2, z3⟩
      · exact Or.inl ((e 626 _ (by omega) (by omega)).symm.trans z)
      · exact Or.inr ⟨s, z1, (e 627 _ (by omega) (by omega)).symm.trans z2, z3⟩
  have g9 : sg (g8N (uK p U 625)) 0 N ≤ 9 := by
    have hh : ∀ m, m < N → U.1 625 (320 * p + m) = 8 → U.1 637 (10 * p + (U.1 628 (320 * p + m)).toNat) = (m : Int) ∧ 1 ≤ U.1 628 (320 * p + m) ∧ U.1 628 (320 * p + m) ≤ 9 := fun m hm h8 => by
      have v := hA.1.1.2.2.2.1.1 m hm
      have v3 := v.2.2
      rw [e 625 m (by omega) (by omega), e 628 m (by omega) (by omega), sft_7] at v3
      have v1 := v.1
      rw [e 625 m (by omega) (by omega), e 628 m (by omega) (by omega), e 629 m (by omega) (by omega)] at v1
      exact ⟨(v3 h8).2, v1.2.2.2.1 (Or.inl h8)⟩
    have q1 := cn2_9 (N := N) (a := 0) (f := uK p U 625) (g := fun m => U.1 628 (320 * p + m)) (P := fun _ => 0) (h := fun j => U.1 637 (10 * p + j.toNat)) hh N (Nat.le_refl _)
    have q2 := pf_g (kd := uK p U 625) N
    show pf (g8N (uK p U 625)) N - 0 ≤ 9
    omega
  refine ⟨y, tre, ⟨fun m hm hI => ?_, fun m t hm hI hx => ?_⟩, g9, ?_, fun v hv h0 h14 => ?_⟩
  · have q := y1 m hm (by rw [e 625 m (by omega) (by omega)]; exact hI.2) hI.1
    rw [e 625 m (by omega) (by omega)] at q
    exact q
  · have q := y2 m t hm (by rw [e 625 m (by omega) (by omega)]; exact hI.2) ((e 627 m (by omega) (by omega)).trans hx)
    rw [e 625 m (by omega) (by omega)] at q
    exact q.2
  · have t := hA.1.1.2.2.2.2.2.2.2.2.2
    rw [nrc_c (f := uK p U 625) (f' := Kn (sft p U)) N (fun m _ => e 625 m (by omega) (by omega))] at t
    have i := pf_i (kd := uK p U 625) n4.1 (N - 1)
    rw [show N - 1 + 1 = N by omega] at i
    have s := sg_2 (f := itN (uK p U 625)) (h := g8N (uK p U 625)) (Nat.zero_le N)
    have s2 : sg (itN (uK p U 625)) 0 N = pf (itN (uK p U 625)) N := Nat.sub_zero _
    show sg (fun v => itN (uK p U 625) v + g8N (uK p U 625) v) 0 N ≤ 159
    omega
  · obtain ⟨g, g1, g2, _, j, j1, j2, j3, _⟩ := sa_call hA hv h14
    have eg : uT p U v = g := by
      unfold uT
      rw [j1, Int.toNat_natCast, j3, Int.toNat_natCast]
    rw [eg]
    exact ⟨g1, g2⟩
theorem VV_o {N : Nat} {kd nx rp lw hi : Nat → Int} {up tg : Nat → Nat} {X : Option Nat} (h : κ.1 ≠ 1 ∧ κ.1 ≠ 3 ∧ κ.1 ≠ 6 ∧ κ.1 ≠ 7) : VV N kd nx rp lw hi up tg (κ :: ks) X = VV N kd nx rp lw hi up tg ks X := by
  rw [VV_c, if_neg h.1, if_neg h.2.1, if_neg (fun z => z.elim h.2.2.1 h.2.2.2)]
theorem VV_67 {N : Nat} {kd nx rp lw hi : Nat → Int} {up tg : Nat → Nat} {X : Option Nat} (h : κ.1 = 6 ∨ κ.1 = 7) : VV N kd nx rp lw hi up tg (κ :: ks) X = VV N kd nx rp lw hi up tg ks (some κ.2.2.1) := by
  rw [VV_c, if_neg (by omega), if_neg (by omega), if_pos h]
theorem dO (h : κ.1 ≠ 4) : dOf (κ :: ks) = dOf ks := by
  rw [ks_d, if_neg h]
  rfl
theorem VV_4 {N c m' a b : Nat} {kd nx rp lw hi : Nat → Int} {up tg : Nat → Nat} {X : Option Nat} (h : c ≠ 1 ∧ c ≠ 3 ∧ c ≠ 6 ∧ c ≠ 7) : VV N kd nx rp lw hi up tg ((c, m', a, b) :: ks) X = VV N kd nx rp lw hi up tg ks X := VV_o h
theorem VV_7 {N c m' a b : Nat} {kd nx rp lw hi : Nat → Int} {up tg : Nat → Nat} {X : Option Nat} (h : c = 6 ∨ c = 7) : VV N kd nx rp lw hi up tg ((c, m', a, b) :: ks) X = VV N kd nx rp lw hi up tg ks (some a) := VV_67 h
theorem dO4 {c m' a b : Nat} (h : c ≠ 4) : dOf ((c, m', a, b) :: ks) = dOf ks := dO h
theorem d4 (h : κ.1 = 4) : dOf (κ :: ks) = dOf ks + 1 := by
  rw [ks_d, if_pos h]
theorem bx_K (m : Nat) : bxK p U m = (bN (uK p U 627) m : Int) := by
  unfold bxK bN
  by_cases z : U.1 627 (320 * p + m) = -1
  · rw [if_pos z, if_pos (show uK p U 627 m = -1 from z)]
    rfl
  · rw [if_neg z, if_neg (show ¬ uK p U 627 m = -1 from z)]
    rfl
theorem bv_K (hA : STA k p N M φ ψ own up lo U) (hm : m < N) (hr : U.1 630 (320 * p + m) ≠ -1) : m ≠ 0 ∧ bval (uK p U 631 m) (uK p U 632 m) := by
  refine ⟨fun z => ?_, (sa_node hA hm).2.2.2.2 hr⟩
  rw [z] at hr
  exact hr (sa_num hA).2.2.2.2.2.1
theorem pot_1 (hA : STA k p N M φ ψ own up lo U) (hm : m < N) (h0 : m ≠ 0) (h18 : U.1 625 (320 * p + m) ≠ 18) : bxK p U m + Vp N (uK p U 625) (uK p U 627) (uK p U 630) (uK p U 631) (uK p U 632) up (uT p U) 1 m 0 (nxK p U ks m) x ≤ Vp N (uK p U 625) (uK p U 627) (uK p U 630) (uK p U 631) (uK p U 632) up (uT p U) 0 0 0 ((1, m, a, b) :: ks) x := by
  obtain ⟨y, hF⟩ := FRM_of hA
  rw [bx_K]
  exact q_item (lw := uK p U 631) (hi := uK p U 632) hF hm ⟨h0, h18⟩
theorem pot_2 (hA : STA k p N M φ ψ own up lo U) (hm : m < N) (h0 : m ≠ 0) : (U.1 630 (320 * p + m) = -1 → Vp N (uK p U 625) (uK p U 627) (uK p U 630) (uK p U 631) (uK p U 632) up (uT p U) 2 m 0 ks x ≤ Vp N (uK p U 625) (uK p U 627) (uK p U 630) (uK p U 631) (uK p U 632) up (uT p U) 1 m 0 ks x) ∧ (U.1 630 (320 * p + m) = 0 ∨ U.1 630 (320 * p + m) = 1 → Vp N (uK p U 625) (uK p U 627) (uK p U 630) (uK p U 631) (uK p U 632) up (uT p U) 6 m 0 ks x ≤ 299 + Vp N (uK p U 625) (uK p U 627) (uK p U 630) (uK p U 631) (uK p U 632) up (uT p U) 1 m 0 ks x) ∧ (U.1 630 (320 * p + m) = 2 → ∀ a b, 2 + Vp N (uK p U 625) (uK p U 627) (uK p U 630) (uK p U 631) (uK p U 632) up (uT p U) 6 m 0 ((9, m, a, b) :: ks) x ≤ 598 + Vp N (uK p U 625) (uK p U 627) (uK p U 630) (uK p U 631) (uK p U 632) up (uT p U) 1 m 0 ks x) := by
  obtain ⟨y, hF⟩ := FRM_of hA
  have six : U.1 630 (320 * p + m) ≠ -1 → v6 N (uK p U 625) (uK p U 627) (uK p U 630) (uK p U 631) (uK p U 632) up (uT p U) m 0 ks ≤ 299 + v1 N (uK p U 625) (uK p U 627) (uK p U 630) up (uT p U) (dOf ks) m (VV N (uK p U 625) (uK p U 627) (uK p U 630) (uK p U 631) (uK p U 632) up (uT p U) ks (some x)) := fun hr => q_6 hF hm h0 (bv_K hA hm hr).2 hr
  refine ⟨fun hr => ?_, fun hr => six (by omega), fun hr a b => ?_⟩
  · have e : v1 N (uK p U 625) (uK p U 627) (uK p U 630) up (uT p U) (dOf ks) m (VV N (uK p U 625) (uK p U 627) (uK p U 630) (uK p U 631) (uK p U 632) up (uT p U) ks (some x)) = v2 N (uK p U 625) (uK p U 627) (uK p U 630) up (uT p U) (dOf ks) m (VV N (uK p U 625) (uK p U 627) (uK p U 630) (uK p U 631) (uK p U 632) up (uT p U) ks (some x)) := if_pos hr
    show v2 N (uK p U 625) (uK p U 627) (uK p U 630) up (uT p U) (dOf ks) m (VV N (uK p U 625) (uK p U 627) (uK p U 630) (uK p U 631) (uK p U 632) up (uT p U) ks (some x)) ≤ v1 N (uK p U 625) (uK p U 627) (uK p U 630) up (uT p U) (dOf ks) m (VV N (uK p U 625) (uK p U 627) (uK p U 630) (uK p U 631) (uK p U 632) up (uT p U) ks (some x))
    rw [e]
    exact Int.le_refl _
  · have q := six (by omega)
    have e : v6 N (uK p U 625) (uK p U 627) (uK p U 630) (uK p U 631) (uK p U 632) up (uT p U) m 0 ((9, m, a, b) :: ks) = v6 N (uK p U 625) (uK p U 627) (uK p U 630) (uK p U 631) (uK p U 632) up (uT p U) m 0 ks := by
      unfold v6
      rw [VV_4 (by decide), dO4 (by decide)]
    show 2 + v6 N (uK p U 625) (uK p U 627) (uK p U 630) (uK p U 631) (uK p U 632) up (uT p U) m 0 ((9, m, a, b) :: ks) ≤ 598 + v1 N (uK p U 625) (uK p U 627) (uK p U 630) up (uT p U) (dOf ks) m (VV N (uK p U 625) (uK p U 627) (uK p U 630) (uK p U 631) (uK p U 632) up (uT p U) ks (some x))
    rw [e]
    omega
theorem pot_3 (hA : STA k p N M φ ψ own up lo U) (hm : m < N) (hr : U.1 630 (320 * p + m) ≠ -1) : ((r : Int) < U.1 631 (320 * p + m) ∨ U.1 632 (320 * p + m) = -1 ∨ (r : Int) < U.1 632 (320 * p + m) → Vp N (uK p U 625) (uK p U 627) (uK p U 630) (uK p U 631) (uK p U 632) up (uT p U) 9 m r ks x ≤ Vp N (uK p U 625) (uK p U 627) (uK p U 630) (uK p U 631) (uK p U 632) up (uT p U) 6 m r ks x) ∧ (U.1 631 (320 * p + m) ≤ (r : Int) → Vp N (uK p U 625) (uK p U 627) (uK p U 630) (uK p U 631) (uK p U 632) up (uT p U) 0 0 0 ks x ≤ Vp N (uK p U 625) (uK p U 627) (uK p U 630) (uK p U 631) (uK p U 632) up (uT p U) 6 m r ks x) ∧ 2 + Vp N (uK p U 625) (uK p U 627) (uK p U 630) (uK p U 631) (uK p U 632) up (uT p U) 2 m 0 ((3, m, r, x) :: ks) x ≤ 299 + Vp N (uK p U 625) (uK p U 627) (uK p U 630) (uK p U 631) (uK p U 632) up (uT p U) 9 m r ks x ∧ ∀ pl, ¬ (U.1 632 (320 * p + m) = -1 ∧ U.1 631 (320 * p + m) < (r : Int) + 1 ∧ x = pl) → Vp N (uK p U 625) (uK p U 627) (uK p U 630) (uK p U 631) (uK p U 632) up (uT p U) 6 m (r + 1) ks x ≤ Vp N (uK p U 625) (uK p U 627) (uK p U 630) (uK p U 631) (uK p U 632) up (uT p U) 0 0 0 ((3, m, r, pl) :: ks) x := by
  obtain ⟨y, hF⟩ := FRM_of hA
  refine ⟨fun hb => ?_, fun _ => ?_, ?_, fun pl hb => ?_⟩
  · show v9 N (uK p U 625) (uK p U 627) (uK p U 630) (uK p U 631) (uK p U 632) up (uT p U) m r ks x ≤ v6 N (uK p U 625) (uK p U 627) (uK p U 630) (uK p U 631) (uK p U 632) up (uT p U) m r ks
    exact q_6a hF hm (bv_K hA hm hr).1 (bv_K hA hm hr).2 hb
  · show VV N (uK p U 625) (uK p U 627) (uK p U 630) (uK p U 631) (uK p U 632) up (uT p U) ks (some x) ≤ v6 N (uK p U 625) (uK p U 627) (uK p U 630) (uK p U 631) (uK p U 632) up (uT p U) m r ks
    exact q_6b
  · show 2 + v2 N (uK p U 625) (uK p U 627) (uK p U 630) up (uT p U) (dOf ((3, m, r, x) :: ks)) m (VV N (uK p U 625) (uK p U 627) (uK p U 630) (uK p U 631) (uK p U 632) up (uT p U) ((3, m, r, x) :: ks) (some x)) ≤ 299 + v9 N (uK p U 625) (uK p U 627) (uK p U 630) (uK p U 631) (uK p U 632) up (uT p U) m r ks x
    rw [dO4 (by decide)]
    exact q_6c
  · show v6 N (uK p U 625) (uK p U 627) (uK p U 630) (uK p U 631) (uK p U 632) up (uT p U) m (r + 1) ks ≤ VV N (uK p U 625) (uK p U 627) (uK p U 630) (uK p U 631) (uK p U 632) up (uT p U) ((3, m, r, pl) :: ks) (some x)
    exact q_6d hb
theorem pot_4 (hA : STA k p N M φ ψ own up lo U) (hm : m < N) (h0 : m ≠ 0) (h18 : U.1 625 (320 * p + m) ≠ 18) : (U.1 625 (320 * p + m) = 0 → Vp N (uK p U 625) (uK p U 627) (uK p U 630) (uK p U 631) (uK p U 632) up (uT p U) 0 0 0 ks (x + 1) ≤ 299 + Vp N (uK p U 625) (uK p U 627) (uK p U 630) (uK p U 631) (uK p U 632) up (uT p U) 2 m 0 ks x) ∧ ((1 ≤ U.1 625 (320 * p + m) ∧ U.1 625 (320 * p + m) ≤ 6) ∨ 16 ≤ U.1 625 (320 * p + m) ∨ (11 ≤ U.1 625 (320 * p + m) ∧ U.1 625 (320 * p + m) ≤ 13) → Vp N (uK p U 625) (uK p U 627) (uK p U 630) (uK p U 631) (uK p U 632) up (uT p U) 0 0 0 ks x ≤ 299 + Vp N (uK p U 625) (uK p U 627) (uK p U 630) (uK p U 631) (uK p U 632) up (uT p U) 2 m 0 ks x) ∧ (U.1 625 (320 * p + m) = 7 → ∀ y, x ≤ y → Vp N (uK p U 625) (uK p U 627) (uK p U 630) (uK p U 631) (uK p U 632) up (uT p U) 0 0 0 ks y ≤ 299 + Vp N (uK p U 625) (uK p U 627) (uK p U 630) (uK p U 631) (uK p U 632) up (uT p U) 2 m 0 ks x) ∧ (U.1 625 (320 * p + m) = 8 → 2 + Vp N (uK p U 625) (uK p U 627) (uK p U 630) (uK p U 631) (uK p U 632) up (uT p U) 3 m 0 ((2, m, x, 0) :: ks) x ≤ Vp N (uK p U 625) (uK p U 627) (uK p U 630) (uK p U 631) (uK p U 632) up (uT p U) 2 m 0 ks x) ∧ (U.1 625 (320 * p + m) = 9 → Vp N (uK p U 625) (uK p U 627) (uK p U 630) (uK p U 631) (uK p U 632) up (uT p U) 3 m 0 ((8, m, 0, 0) :: ks) x ≤ Vp N (uK p U 625) (uK p U 627) (uK p U 630) (uK p U 631) (uK p U 632) up (uT p U) 2 m 0 ks x) ∧ (U.1 625 (320 * p + m) = 10 → ∀ b, 2 + Vp N (uK p U 625) (uK p U 627) (uK p U 630) (uK p U 631) (uK p U 632) up (uT p U) 3 m 0 ((5, m, x, b) :: ks) x ≤ 299 + Vp N (uK p U 625) (uK p U 627) (uK p U 630) (uK p U 631) (uK p U 632) up (uT p U) 2 m 0 ks x) ∧ (U.1 625 (320 * p + m) = 11 → ∀ b, 2 + Vp N (uK p U 625) (uK p U 627) (uK p U 630) (uK p U 631) (uK p U 632) up (uT p U) 3 m 0 ((6, m, x, b) :: ks) x ≤ 299 + Vp N (uK p U 625) (uK p U 627) (uK p U 630) (uK p U 631) (uK p U 632) up (uT p U) 2 m 0 ks x) ∧ (U.1 625 (320 * p + m) = 12 → ∀ b y, y ≤ x → 2 + Vp N (uK p U 625) (uK p U 627) (uK p U 630) (uK p U 631) (uK p U 632) up (uT p U) 3 m 0 ((7, m, x, b) :: ks) y ≤ 299 + Vp N (uK p U 625) (uK p U 627) (uK p U 630) (uK p U 631) (uK p U 632) up (uT p U) 2 m 0 ks x) ∧ (U.1 625 (320 * p + m) = 13 → ∀ r, r = m + 1 ∨ U.1 627 (320 * p + (m + 1)) = (r : Int) → Vp N (uK p U 625) (uK p U 627) (uK p U 630) (uK p U 631) (uK p U 632) up (uT p U) 7 r 0 ((8, m, 0, 0) :: ks) x ≤ 299 + Vp N (uK p U 625) (uK p U 627) (uK p U 630) (uK p U 631) (uK p U 632) up (uT p U) 2 m 0 ks x) ∧ (U.1 625 (320 * p + m) = 14 → dOf ks < 20 → ∀ g j : Nat, U.1 628 (320 * p + m) = (j : Int) → U.1 637 (10 * p + j) = (g : Int) → 2 + Vp N (uK p U 625) (uK p U 627) (uK p U 630) (uK p U 631) (uK p U 632) up (uT p U) 3 g 0 ((4, g, 0, 0) :: ks) x ≤ 299 + Vp N (uK p U 625) (uK p U 627) (uK p U 630) (uK p U 631) (uK p U 632) up (uT p U) 2 m 0 ks x) := by
  obtain ⟨y, hF⟩ := FRM_of hA
  have np : ¬ (U.1 625 (320 * p + m) = 14 ∨ U.1 625 (320 * p + m) = 8 ∨ U.1 625 (320 * p + m) = 9) → ¬ purA (uK p U 625) (uK p U 627) m := fun h z => by
    have := z.2
    unfold uK at this
    omega
  refine ⟨fun h => ?_, fun h => ?_, fun h y _ => ?_, fun h => ?_, fun h => ?_, fun h b => ?_, fun h b => ?_, fun h b y _ => ?_, fun h r hr => ?_, fun h hd g j hj hg => ?_⟩
  · show VV N (uK p U 625) (uK p U 627) (uK p U 630) (uK p U 631) (uK p U 632) up (uT p U) ks (some (x + 1)) ≤ 299 + v2 N (uK p U 625) (uK p U 627) (uK p U 630) up (uT p U) (dOf ks) m (VV N (uK p U 625) (uK p U 627) (uK p U 630) (uK p U 631) (uK p U 632) up (uT p U) ks (some x))
    exact q_leaf (np (by omega))
  · show VV N (uK p U 625) (uK p U 627) (uK p U 630) (uK p U 631) (uK p U 632) up (uT p U) ks (some x) ≤ 299 + v2 N (uK p U 625) (uK p U 627) (uK p U 630) up (uT p U) (dOf ks) m (VV N (uK p U 625) (uK p U 627) (uK p U 630) (uK p U 631) (uK p U 632) up (uT p U) ks (some x))
    exact q_leaf (np (by omega))
  · show VV N (uK p U 625) (uK p U 627) (uK p U 630) (uK p U 631) (uK p U 632) up (uT p U) ks (some y) ≤ 299 + v2 N (uK p U 625) (uK p U 627) (uK p U 630) up (uT p U) (dOf ks) m (VV N (uK p U 625) (uK p U 627) (uK p U 630) (uK p U 631) (uK p U 632) up (uT p U) ks (some x))
    exact q_leaf (np (by omega))
  · show 2 + v3 N (uK p U 625) (uK p U 627) (uK p U 630) up (uT p U) (dOf ((2, m, x, 0) :: ks)) m (VV N (uK p U 625) (uK p U 627) (uK p U 630) (uK p U 631) (uK p U 632) up (uT p U) ((2, m, x, 0) :: ks) (some x)) ≤ v2 N (uK p U 625) (uK p U 627) (uK p U 630) up (uT p U) (dOf ks) m (VV N (uK p U 625) (uK p U 627) (uK p U 630) (uK p U 631) (uK p U 632) up (uT p U) ks (some x))
    rw [VV_4 (by decide), dO4 (by decide)]
    exact q_8 h0 h
  · show v3 N (uK p U 625) (uK p U 627) (uK p U 630) up (uT p U) (dOf ((8, m, 0, 0) :: ks)) m (VV N (uK p U 625) (uK p U 627) (uK p U 630) (uK p U 631) (uK p U 632) up (uT p U) ((8, m, 0, 0) :: ks) (some x)) ≤ v2 N (uK p U 625) (uK p U 627) (uK p U 630) up (uT p U) (dOf ks) m (VV N (uK p U 625) (uK p U 627) (uK p U 630) (uK p U 631) (uK p U 632) up (uT p U) ks (some x))
    rw [VV_4 (by decide), dO4 (by decide)]
    exact q_9 h0 h
  · show 2 + v3 N (uK p U 625) (uK p U 627) (uK p U 630) up (uT p U) (dOf ((5, m, x, b) :: ks)) m (VV N (uK p U 625) (uK p U 627) (uK p U 630) (uK p U 631) (uK p U 632) up (uT p U) ((5, m, x, b) :: ks) (some x)) ≤ 299 + v2 N (uK p U 625) (uK p U 627) (uK p U 630) up (uT p U) (dOf ks) m (VV N (uK p U 625) (uK p U 627) (uK p U 630) (uK p U 631) (uK p U 632) up (uT p U) ks (some x))
    rw [VV_4 (by decide), dO4 (by decide)]
    exact q_10 (np (by omega))
  · show 2 + v3 N (uK p U 625) (uK p U 627) (uK p U 630) up (uT p U) (dOf ((6, m, x, b) :: ks)) m (VV N (uK p U 625) (uK p U 627) (uK p U 630) (uK p U 631) (uK p U 632) up (uT p U) ((6, m, x, b) :: ks) (some x)) ≤ 299 + v2 N (uK p U 625) (uK p U 627) (uK p U 630) up (uT p U) (dOf ks) m (VV N (uK p U 625) (uK p U 627) (uK p U 630) (uK p U 631) (uK p U 632) up (uT p U) ks (some x))
    rw [VV_7 (by decide), dO4 (by decide)]
    exact q_10 (np (by omega))
  · show 2 + v3 N (uK p U 625) (uK p U 627) (uK p U 630) up (uT p U) (dOf ((7, m, x, b) :: ks)) m (VV N (uK p U 625) (uK p U 627) (uK p U 630) (uK p U 631) (uK p U 632) up (uT p U) ((7, m, x, b) :: ks) (some y)) ≤ 299 + v2 N (uK p U 625) (uK p U 627) (uK p U 630) up (uT p U) (dOf ks) m (VV N (uK p U 625) (uK p U 627) (uK p U 630) (uK p U 631) (uK p U 632) up (uT p U) ks (some x))
    rw [VV_7 (by decide), dO4 (by decide)]
    exact q_10 (np (by omega))
  · show v7 N (uK p U 625) (uK p U 627) (uK p U 630) up (uT p U) (dOf ((8, m, 0, 0) :: ks)) r (VV N (uK p U 625) (uK p U 627) (uK p U 630) (uK p U 631) (uK p U 632) up (uT p U) ((8, m, 0, 0) :: ks) (some x)) ≤ 299 + v2 N (uK p U 625) (uK p U 627) (uK p U 630) up (uT p U) (dOf ks) m (VV N (uK p U 625) (uK p U 627) (uK p U 630) (uK p U 631) (uK p U 632) up (uT p U) ks (some x))
    rw [VV_4 (by decide), dO4 (by decide)]
    exact q_13 hF hm h hr
  · have eg : uT p U m = g := by
      unfold uT
      rw [hj, Int.toNat_natCast, hg, Int.toNat_natCast]
    have q := q_14 (d := dOf ks) (Y := VV N (uK p U 625) (uK p U 627) (uK p U 630) (uK p U 631) (uK p U 632) up (uT p U) ks (some x)) hF hm h0 h hd
    rw [eg] at q
    show 2 + v3 N (uK p U 625) (uK p U 627) (uK p U 630) up (uT p U) (dOf ((4, g, 0, 0) :: ks)) g (VV N (uK p U 625) (uK p U 627) (uK p U 630) (uK p U 631) (uK p U 632) up (uT p U) ((4, g, 0, 0) :: ks) (some x)) ≤ 299 + v2 N (uK p U 625) (uK p U 627) (uK p U 630) up (uT p U) (dOf ks) m (VV N (uK p U 625) (uK p U 627) (uK p U 630) (uK p U 631) (uK p U 632) up (uT p U) ks (some x))
    rw [VV_4 (by decide), d4 rfl]
    exact q
theorem pot_6 (hA : STA k p N M φ ψ own up lo U) (hr : r < N) (h18 : U.1 625 (320 * p + r) = 18) : Vp N (uK p U 625) (uK p U 627) (uK p U 630) (uK p U 631) (uK p U 632) up (uT p U) 7 r 0 ks x ≤ 299 + Vp N (uK p U 625) (uK p U 627) (uK p U 630) (uK p U 631) (uK p U 632) up (uT p U) 8 r 0 ks x ∧ (∀ t : Nat, U.1 627 (320 * p + r) = (t : Int) → Vp N (uK p U 625) (uK p U 627) (uK p U 630) (uK p U 631) (uK p U 632) up (uT p U) 8 t 0 ks x ≤ Vp N (uK p U 625) (uK p U 627) (uK p U 630) (uK p U 631) (uK p U 632) up (uT p U) 8 r 0 ks x) ∧ (U.1 626 (320 * p + r) = -1 → Vp N (uK p U 625) (uK p U 627) (uK p U 630) (uK p U 631) (uK p U 632) up (uT p U) 0 0 0 ks x ≤ Vp N (uK p U 625) (uK p U 627) (uK p U 630) (uK p U 631) (uK p U 632) up (uT p U) 7 r 0 ks x) ∧ ∀ t : Nat, U.1 626 (320 * p + r) = (t : Int) → bxK p U t + Vp N (uK p U 625) (uK p U 627) (uK p U 630) (uK p U 631) (uK p U 632) up (uT p U) 1 t 0 (nxK p U ks t) x ≤ Vp N (uK p U 625) (uK p U 627) (uK p U 630) (uK p U 631) (uK p U 632) up (uT p U) 7 r 0 ks x := by
  obtain ⟨y, hF⟩ := FRM_of hA
  obtain ⟨q1, q2, q3⟩ := q_row (d := dOf ks) (Y := VV N (uK p U 625) (uK p U 627) (uK p U 630) (uK p U 631) (uK p U 632) up (uT p U) ks (some x)) hF hr h18
  refine ⟨q1, q2, q3, fun t ht => ?_⟩
  rcases sa_child hA hr with z | ⟨z1, z2, z3, z4, z5⟩
  · omega
  · have et : t = r + 1 := by omega
    subst et
    have q := q_item (ks := ks) (x := x) (lw := uK p U 631) (hi := uK p U 632) hF z2 ⟨by omega, fun z => (z4.mp z) h18⟩
    rw [z3] at q
    rw [bx_K]
    exact q
theorem pot_5 (hA : STA k p N M φ ψ own up lo U) (hm : m < N) (h8 : 8 ≤ U.1 625 (320 * p + m) ∧ U.1 625 (320 * p + m) ≤ 13) : (U.1 627 (320 * p + (m + 1)) = -1 → Vp N (uK p U 625) (uK p U 627) (uK p U 630) (uK p U 631) (uK p U 632) up (uT p U) 7 (m + 1) 0 ks x ≤ Vp N (uK p U 625) (uK p U 627) (uK p U 630) (uK p U 631) (uK p U 632) up (uT p U) 3 m 0 ks x) ∧ (U.1 627 (320 * p + (m + 1)) ≠ -1 → Vp N (uK p U 625) (uK p U 627) (uK p U 630) (uK p U 631) (uK p U 632) up (uT p U) 8 (m + 1) 0 ks x ≤ Vp N (uK p U 625) (uK p U 627) (uK p U 630) (uK p U 631) (uK p U 632) up (uT p U) 3 m 0 ks x) := by
  obtain ⟨y, hF⟩ := FRM_of hA
  have q := fun Y => q_part (d := dOf ks) (Y := Y) hF hm (show 8 ≤ uK p U 625 m ∧ uK p U 625 m ≤ 13 from h8)
  refine ⟨fun h => ?_, fun h => ?_⟩
  · show v7 N (uK p U 625) (uK p U 627) (uK p U 630) up (uT p U) (dOf ks) (m + 1) (VV N (uK p U 625) (uK p U 627) (uK p U 630) (uK p U 631) (uK p U 632) up (uT p U) ks (some x)) ≤ v3 N (uK p U 625) (uK p U 627) (uK p U 630) up (uT p U) (dOf ks) m (VV N (uK p U 625) (uK p U 627) (uK p U 630) (uK p U 631) (uK p U 632) up (uT p U) ks (some x))
    exact (q _).1 h
  · show v8 N (uK p U 625) (uK p U 627) (uK p U 630) up (uT p U) (dOf ks) (m + 1) (VV N (uK p U 625) (uK p U 627) (uK p U 630) (uK p U 631) (uK p U 632) up (uT p U) ks (some x)) ≤ v3 N (uK p U 625) (uK p U 627) (uK p U 630) up (uT p U) (dOf ks) m (VV N (uK p U 625) (uK p U 627) (uK p U 630) (uK p U 631) (uK p U 632) up (uT p U) ks (some x))
    exact (q _).2 h
theorem pot_7 : (κ.1 = 2 ∨ κ.1 = 4 ∨ κ.1 = 5 ∨ κ.1 = 8 ∨ κ.1 = 9 → Vp N (uK p U 625) (uK p U 627) (uK p U 630) (uK p U 631) (uK p U 632) up (uT p U) 0 0 0 ks x ≤ Vp N (uK p U 625) (uK p U 627) (uK p U 630) (uK p U 631) (uK p U 632) up (uT p U) 0 0 0 (κ :: ks) x) ∧ (κ.1 = 6 ∨ κ.1 = 7 → Vp N (uK p U 625) (uK p U 627) (uK p U 630) (uK p U 631) (uK p U 632) up (uT p U) 0 0 0 ks κ.2.2.1 ≤ Vp N (uK p U 625) (uK p U 627) (uK p U 630) (uK p U 631) (uK p U 632) up (uT p U) 0 0 0 (κ :: ks) x) := by
  refine ⟨fun h => ?_, fun h => ?_⟩
  · show VV N (uK p U 625) (uK p U 627) (uK p U 630) (uK p U 631) (uK p U 632) up (uT p U) ks (some x) ≤ VV N (uK p U 625) (uK p U 627) (uK p U 630) (uK p U 631) (uK p U 632) up (uT p U) (κ :: ks) (some x)
    rw [VV_o (by omega)]
    exact Int.le_refl _
  · show VV N (uK p U 625) (uK p U 627) (uK p U 630) (uK p U 631) (uK p U 632) up (uT p U) ks (some κ.2.2.1) ≤ VV N (uK p U 625) (uK p U 627) (uK p U 630) (uK p U 631) (uK p U 632) up (uT p U) (κ :: ks) (some x)
    rw [VV_67 h]
    exact Int.le_refl _
theorem POT_of (hA : STA k p N M φ ψ own up lo U) : POT p N U len (Vp N (uK p U 625) (uK p U 627) (uK p U 630) (uK p U 631) (uK p U 632) up (uT p U)) := ⟨Vp_0, fun _ _ _ _ _ hm h0 h18 => pot_1 hA hm h0 h18, fun _ _ _ hm h0 _ => pot_2 hA hm h0, fun _ _ _ _ hm hr => pot_3 hA hm hr, fun _ _ _ hm h0 h18 => pot_4 hA hm h0 h18, fun _ _ _ hm h8 => pot_5 hA hm h8, fun _ _ _ hr h18 => pot_6 hA hr h18, fun _ _ _ => pot_7⟩
theorem POTX_of (hA : STA k p N M φ ψ own up lo U) : POTX p N U len := by
  obtain ⟨y, hF⟩ := FRM_of hA
  exact ⟨_, POT_of hA, fun x _ => q_start hF⟩
theorem HSIM_ok (hK : sp_PT U) (hB : sp_BR U) (hG : SG U) (hQ : 40000000000 ≤ Q) : HSIM Q U := HSIM_of hK hB hG hQ (fun _ _ _ _ _ _ _ _ _ _ hA _ => POTX_of hA)
end OQM
