/-! THE READER: a group is opened on both sides, all tables -/
section ROPEN2
variable {Q k n m w d N M D : Nat} {φ ψ own G R : Nat → Nat} {P q : Nat → Int} {S T S2 T2 : ev_St}
/-- what the class's begin comes to -/
def BGc (d : Nat) (a b c : Int) (S S' : ev_St) : Prop := (S'.1 (17 + d) 0 = a ∧ S'.1 (17 + d) 1 = b ∧ S'.1 (17 + d) 2 = S.1 3 11 ∧ S'.1 (17 + d) 3 = c ∧ ∀ g, 4 ≤ g → g ≤ 8 → S'.1 (17 + d) g = -1) ∧ (S'.1 3 10 = (d : Int) ∧ S'.1 3 13 = 0) ∧ (∀ x g, ¬ (x = 3 ∧ (g = 10 ∨ g = 13)) → ¬ (x = 17 + d ∧ g ≤ 8) → S'.1 x g = S.1 x g) ∧ S'.2 = S.2
/-- what the reference's opens comes to -/
def OPr (d n m : Nat) (tx : Int) (T T' : ev_St) : Prop := (T'.1 635 12 = (m : Int) + 1 ∧ T'.1 621 31 = (d : Int) + 1 ∧ T'.1 621 37 = (m : Int) ∧ T'.1 621 38 = -1 ∧ T'.1 621 39 = -1) ∧ (T'.1 646 d = (n : Int) ∧ T'.1 647 d = T.1 621 37 ∧ T'.1 648 d = T.1 621 38 ∧ T'.1 649 d = T.1 621 40 ∧ T'.1 650 d = tx) ∧ (T'.1 625 (3840 + m) = 18 ∧ T'.1 626 (3840 + m) = -1 ∧ T'.1 627 (3840 + m) = -1 ∧ T'.1 628 (3840 + m) = 0 ∧ T'.1 629 (3840 + m) = 0 ∧ T'.1 630 (3840 + m) = -1) ∧ T'.1 626 (3840 + n) = (m : Int) ∧ (∀ c g, ¬ (c = 635 ∧ g = 12) → ¬ (625 ≤ c ∧ c ≤ 632 ∧ g = 3840 + m) → ¬ (c = 626 ∧ g = 3840 + n) → ¬ (c = 621 ∧ (g = 31 ∨ g = 37 ∨ g = 38 ∨ g = 39)) → ¬ (646 ≤ c ∧ c ≤ 650 ∧ g = d) → T'.1 c g = T.1 c g) ∧ (∀ c g, ¬ (633 ≤ c ∧ c ≤ 634 ∧ g = 3840 + m) → T'.2.1 c g = T.2.1 c g) ∧ T'.2.2 = T.2.2
/-- what the reference's new item comes to -/
def ADr (m : Nat) (a : Int) (T T' : ev_St) : Prop := (T'.1 635 12 = (m : Int) + 1 ∧ T'.1 621 27 = T.1 621 27 + 1 ∧ T'.1 621 25 = (if T.1 621 25 = 0 ∧ T.1 621 27 < 150 then 0 else 1) ∧ T'.1 621 38 = (m : Int) ∧ T'.1 621 39 = (m : Int) ∧ T'.1 (lkc (T.1 621 38)) (lkp (T.1 621 38) (T.1 621 37)) = (m : Int)) ∧ (T'.1 625 (3840 + m) = a ∧ T'.1 626 (3840 + m) = -1 ∧ T'.1 627 (3840 + m) = -1 ∧ T'.1 628 (3840 + m) = 0 ∧ T'.1 629 (3840 + m) = 0 ∧ T'.1 630 (3840 + m) = -1 ∧ T'.1 631 (3840 + m) = 1 ∧ T'.1 632 (3840 + m) = 1 ∧ T'.2.1 633 (3840 + m) = L0 ∧ T'.2.1 634 (3840 + m) = L0) ∧ (∀ c g, ¬ (c = 635 ∧ g = 12) → ¬ (625 ≤ c ∧ c ≤ 632 ∧ g = 3840 + m) → ¬ (c = 621 ∧ (g = 25 ∨ g = 27 ∨ g = 38 ∨ g = 39)) → ¬ (c = lkc (T.1 621 38) ∧ g = lkp (T.1 621 38) (T.1 621 37)) → T'.1 c g = T.1 c g) ∧ (∀ c g, ¬ (633 ≤ c ∧ c ≤ 634 ∧ g = 3840 + m) → T'.2.1 c g = T.2.1 c g) ∧ T'.2.2 = T.2.2
/-- off the tables nothing is changed by a new item -/
theorem ADr_o {a : Int} (h : ADr m a T T2) {c g : Nat} (h1 : ¬ (c = 635 ∧ g = 12)) (h2 : ¬ (625 ≤ c ∧ c ≤ 632)) (h3 : ¬ (c = 621 ∧ (g = 25 ∨ g = 27 ∨ g = 38 ∨ g = 39))) : T2.1 c g = T.1 c g := by
  have lk := lk_i (T.1 621 38) (T.1 621 37)
  exact h.2.2.1 c g h1 (fun z => h2 ⟨z.1, z.2.1⟩) h3 (fun z => h2 (by omega))
theorem grp_open {c f x y b : Int} {ng : Int} (hR : RDR k N M D φ ψ own G R P q S T) (hkr : 232 ≤ k) (hD : D + 1 < 152) (hc : 8 ≤ c ∧ c ≤ 13) (hx : x = kcl c f) (hy : c = 8 ∨ c = 13 → y = ng) (hfl : S.1 3 11 = T.1 621 40) {S' T1 T' : ev_St} (h1 : ADr N c T T1) (v : T2.1 628 (3840 + N) = ng ∧ T2.1 629 (3840 + N) = f) (v1 : ∀ a g, ¬ ((a = 628 ∨ a = 629) ∧ g = 3840 + N) → a ≠ 636 → a ≠ 637 → a ≠ 638 → T2.1 a g = T1.1 a g) (v2 : T2.2 = T1.2) (h2 : OPr (D + 1) N (N + 1) b T2 T') (s : BGc (D + 1) x y b S S') : RDR k (N + 2) M (D + 1) φ ψ own (nup G (D + 1) N) (nup R (D + 1) (N + 1)) (iup P (D + 1) (-1)) (iup q (D + 1) (-1)) S' T' := by
  obtain ⟨b1, b2, b3⟩ := RDR_b hR
  have lk := lk_i (T.1 621 38) (T.1 621 37)
  obtain ⟨⟨a1, a2, a3, a4, a5, a6⟩, ⟨u1, u2, u3, u4, u5, u6, u7, u8, u9, u10⟩, f1, f2, f3⟩ := h1
  obtain ⟨⟨p1, p2, p3, p4, p5⟩, ⟨o1, o2, o3, o4, o5⟩, ⟨r1, r2, r3, r4, r5, r6⟩, g1, g2, g3, g4⟩ := h2
  obtain ⟨⟨s1, s2, s3, s4, s5⟩, ⟨s6, s7⟩, s8, s9⟩ := s
  have hd := hR.1.2.2.2.1
  have e10 := hR.1.2.2.1
  have gN : ∀ c, 625 ≤ c → c ≤ 632 → c ≠ 626 → T'.1 c (3840 + N) = T2.1 c (3840 + N) := fun c h1 h2 h3 => g2 c _ (by omega) (by omega) (by omega) (by omega) (by omega)
  have e2 : ∀ g, g = 31 ∨ g = 37 ∨ g = 40 → T2.1 621 g = T.1 621 g := fun g hg => by
    rw [v1 _ _ (by omega) (by omega) (by omega) (by omega), f1 _ _ (by omega) (by omega) (by omega) (by omega)]
  refine RDR_open (sw := S.1 3 11) (bs := b) hR hD hkr ⟨s8 _ _ (by omega) (by omega), by rw [s6]; omega⟩ (fun i hi => funext fun g => s8 _ _ (by omega) (by omega)) (fun j h1 h2 => funext fun g => s8 _ _ (by omega) (by omega)) (fun j _ _ => by rw [s9]) s5 ⟨?_, fun z => ?_, s3, s4⟩ ⟨by rw [p1]; omega, by rw [p2]; omega, by rw [p3]; omega, p4⟩ ⟨o1, ?_, ?_, ?_, o5⟩ ?_ ⟨?_, by rw [g1]; omega, ?_, ?_⟩ ⟨r1, r2, r3, r6⟩ (fun c m h1 h2 h3 h4 => ?_) (fun c i h1 h2 h3 => ?_) (fun c m h1 h2 h3 => ?_)
  · rw [gN 625 (by omega) (by omega) (by omega), gN 629 (by omega) (by omega) (by omega), v1 625 _ (by omega) (by omega) (by omega) (by omega), u1, v.2, s1, hx]
  · rw [gN 625 (by omega) (by omega) (by omega), v1 625 _ (by omega) (by omega) (by omega) (by omega), u1] at z
    rw [gN 628 (by omega) (by omega) (by omega), v.1, s2, hy z]
  · rw [o2, e2 37 (by omega)]
  · rw [o3, v1 _ _ (by omega) (by omega) (by omega) (by omega), a4]
  · rw [o4, e2 40 (by omega), hfl]
  · rw [g2 _ _ (by omega) (by omega) (by omega) (by omega) (by omega), v1 _ _ (by omega) (by omega) (by omega) (by omega), a6]
  · rw [gN 625 (by omega) (by omega) (by omega), v1 625 _ (by omega) (by omega) (by omega) (by omega), u1]
    exact hc
  · rw [gN 627 (by omega) (by omega) (by omega), v1 627 _ (by omega) (by omega) (by omega) (by omega), u3]
  · rw [gN 630 (by omega) (by omega) (by omega), v1 630 _ (by omega) (by omega) (by omega) (by omega), u6]
  · rw [g2 _ _ (by omega) (by omega) (by omega) (by omega) (by omega), v1 _ _ (by omega) (by omega) (by omega) (by omega), f1 _ _ (by omega) (by omega) (by omega) h4]
  · rw [g2 _ _ (by omega) (by omega) (by omega) (by omega) (by omega), v1 _ _ (by omega) (by omega) (by omega) (by omega), f1 _ _ (by omega) (by omega) (by omega) (by omega)]
  · rw [g3 _ _ (by omega), v2, f2 _ _ (by omega)]
end ROPEN2
