/-! THE READER: groups that have a number, with a name or without -/
section RGRP
variable {Q k n m w d N M D lv t : Nat} {φ ψ own inn G R ws y : Nat → Nat} {P q : Nat → Int} {S T S0 T0 S1 S' S2 T2 T1 T3 U : ev_St}
theorem RIg_grp {g : Int} (hR : RDR k N M D φ ψ own G R P q S0 T0) (hgg : RIg k N D φ G R S0 T0) (hg : T0.1 636 12 = g) (hg9 : g ≠ 9) (s1 : S'.1 k 12 = g + 1 ∧ ∀ j, S'.1 (k + 10) j = S0.1 (k + 10) j) (s2 : ∀ l, l < 26 → S'.1 (k + 11) l = T3.1 638 (312 + l) ∧ 0 ≤ T3.1 638 (312 + l) ∧ T3.1 638 (312 + l) ≤ g + 1) (t1 : T3.1 636 12 = g + 1 ∧ T3.1 637 (120 + (g + 1)).toNat = (N : Int) ∧ ∀ m : Nat, (m : Int) ≠ 120 + (g + 1) → T3.1 637 m = T0.1 637 m) (t2 : ∀ g, g < N → T3.1 625 (3840 + g) = T0.1 625 (3840 + g) ∧ T3.1 628 (3840 + g) = T0.1 628 (3840 + g)) (t3 : T3.1 625 (3840 + N) = 8 ∧ T3.1 628 (3840 + N) = g + 1) : RIg k (N + 2) (D + 1) φ (nup G (D + 1) N) (nup R (D + 1) (N + 1)) S' T3 := by
  obtain ⟨⟨g1, g1a, g1b⟩, g2, g3, g4, g5⟩ := hgg
  have hG := hR.2.1
  rw [hg] at g1 g1a g1b g3 g4
  refine ⟨⟨by rw [s1.1, t1.1], by rw [t1.1]; omega, by rw [t1.1]; omega⟩, fun l hl => ?_, fun j h1 h2 => ?_, fun i h1 h2 => ?_, ?_⟩
  · rw [t1.1]
    exact s2 l hl
  · rw [t1.1] at h2
    by_cases e : (j : Int) = g + 1
    · refine ⟨N, ?_, by omega, t3.1, by rw [t3.2, e], fun w => ?_⟩
      · have z := t1.2.1
        rw [← e, show (120 + (j : Int)).toNat = 120 + j from by omega] at z
        exact z
      · exfalso
        refine w.2 ⟨D + 1, Nat.le_refl _, ?_⟩
        rw [nup_eq]
        simp
    · obtain ⟨t, z1, z2, z3, z4, z5⟩ := g3 j h1 (by omega)
      refine ⟨t, by rw [t1.2.2 _ (by omega), z1], by omega, by rw [(t2 t z2).1, z3], by rw [(t2 t z2).2, z4], fun w => ?_⟩
      rw [s1.2]
      refine z5 ⟨z2, ?_⟩
      rintro ⟨i, hi, z⟩
      refine w.2 ⟨i, by omega, ?_⟩
      rw [nup_ne (by omega), nup_ne (by omega)]
      exact z
  · by_cases e : i = D + 1
    · subst e
      rw [nup_eq]
      refine ⟨(g + 1).toNat, by omega, by rw [t1.1]; omega, by rw [t3.2]; omega, ?_⟩
      rw [show 120 + (g + 1).toNat = (120 + (g + 1)).toNat from by omega]
      exact t1.2.1
    · rw [nup_ne e] at h2 ⊢
      have hi := (hG i (by omega)).1
      rw [(t2 _ hi).1] at h2
      obtain ⟨j, z1, z2, z3, z4⟩ := g4 i (by omega) h2
      exact ⟨j, z1, by rw [t1.1]; omega, by rw [(t2 _ hi).2, z3], by rw [t1.2.2 _ (by omega), z4]⟩
  · rw [nup_ne (by omega), t1.2.2 _ (by omega)]
    exact g5
theorem BGc_w {a b c v : Int} {x f : Nat} (h : BGc d a b c S S') (hx : x ≠ 3 ∧ x ≠ 17 + d) : BGc d a b c (ev_pI S x f v) (ev_pI S' x f v) := by
  obtain ⟨⟨b1, b2, b3, b4, b5⟩, ⟨b6, b7⟩, b8, b9⟩ := h
  refine ⟨⟨by rw [rd_nk (by omega), b1], by rw [rd_nk (by omega), b2], by rw [rd_nk (by omega), rd_nk (by omega), b3], by rw [rd_nk (by omega), b4], fun g h1 h2 => by rw [rd_nk (by omega), b5 g h1 h2]⟩, ⟨by rw [rd_nk (by omega), b6], by rw [rd_nk (by omega), b7]⟩, fun e g h1 h2 => ?_, b9⟩
  rw [sp_pI1, sp_pI1, b8 e g h1 h2]
/-- the reference's writes at a group -/
def grU (N : Nat) (g : Int) (T : ev_St) : ev_St := ev_pI (ev_pI (ev_pI T 636 12 (g + 1)) 628 (3840 + N) (g + 1)) 637 (120 + (g + 1)).toNat (N : Int)
def grX (N : Nat) (g a : Int) (T : ev_St) : ev_St := if a = -1 then grU N g T else ev_pI (grU N g T) 638 (312 + a).toNat (g + 1)
theorem grX_o {g a : Int} {e f : Nat} (h : e ≠ 636 ∧ e ≠ 637 ∧ e ≠ 638 ∧ ¬ (e = 628 ∧ f = 3840 + N)) : (grX N g a T).1 e f = T.1 e f := by
  unfold grX grU
  split
  · rw [rd_nk (by omega), sp_pI1, if_neg (by omega), rd_nk (by omega)]
  · rw [rd_nk (by omega), rd_nk (by omega), sp_pI1, if_neg (by omega), rd_nk (by omega)]
theorem grX_v {g a : Int} : (grX N g a T).1 636 12 = g + 1 ∧ (grX N g a T).1 628 (3840 + N) = g + 1 ∧ (grX N g a T).1 637 (120 + (g + 1)).toNat = (N : Int) ∧ (∀ m : Nat, 0 ≤ g → (m : Int) ≠ 120 + (g + 1) → (grX N g a T).1 637 m = T.1 637 m) := by
  unfold grX grU
  split
  · refine ⟨by rw [rd_nk (by omega), rd_nk (by omega), rd_eq], by rw [rd_nk (by omega), rd_eq], rd_eq, fun m h0 h => ?_⟩
    rw [rd_nf (by omega), rd_nk (by omega), rd_nk (by omega)]
  · refine ⟨by rw [rd_nk (by omega), rd_nk (by omega), rd_nk (by omega), rd_eq], by rw [rd_nk (by omega), rd_nk (by omega), rd_eq], by rw [rd_nk (by omega), rd_eq], fun m h0 h => ?_⟩
    rw [rd_nk (by omega), rd_nf (by omega), rd_nk (by omega), rd_nk (by omega)]
theorem grX_low {g a : Int} (hg : 0 ≤ g) (ha : a = -1 ∨ 0 ≤ a) {e f : Nat} (h : (e = 636 ∧ f < 12) ∨ (e = 637 ∧ f < 120) ∨ (e = 638 ∧ f < 312)) : (grX N g a T).1 e f = T.1 e f := by
  unfold grX grU
  split
  · rw [sp_pI1, if_neg (by omega), sp_pI1, if_neg (by omega), sp_pI1, if_neg (by omega)]
  · rw [sp_pI1, if_neg (by omega), sp_pI1, if_neg (by omega), sp_pI1, if_neg (by omega), sp_pI1, if_neg (by omega)]
theorem grX_2 {g a : Int} : (grX N g a T).2 = T.2 := by
  unfold grX grU
  split <;> rfl
end RGRP
