/-! THE READER: leaves with a set of characters, and leaves without, on both sides -/
section LEAF2
variable {Q k N M D m : Nat} {φ ψ own G R : Nat → Nat} {P q : Nat → Int} {S T : ev_St}
theorem RDR_b (h : RDR k N M D φ ψ own G R P q S T) : (0 ≤ T.1 621 37 ∧ T.1 621 37 < N) ∧ (-1 ≤ T.1 621 38 ∧ T.1 621 38 < N) ∧ (-1 ≤ S.1 (17 + D) 7 ∧ S.1 (17 + D) 7 < (M : Int)) := by
  have hl := RDR_last h
  obtain ⟨_, hG, _, ⟨e6, e7⟩, _⟩ := h
  have := (hG D (Nat.le_refl _)).2.1
  refine ⟨by omega, ?_, ?_⟩
  · rcases hl with ⟨h1, _⟩ | ⟨t, h1, h2, _⟩
    · omega
    · have := h2.1
      omega
  · rcases hl with ⟨_, h1⟩ | ⟨t, _, _, h1, h2⟩ <;> omega
/-- what both come to when a leaf is read: too many, or one more -/
def LFo (k N M D : Nat) (φ ψ own G R : Nat → Nat) (P q : Nat → Int) (a b c : Int) (S T : ev_St) (A : Option (Int × ev_St)) (T' : ev_St) : Prop := (∃ S', A = some (0, S') ∧ T'.1 621 25 = 1) ∨ ∃ S', A = some (1, S') ∧ LFc k D M a b c S S' ∧ RDR k (N + 1) (M + 1) D (nup φ N M) (nup ψ N M) (nup own M N) G R (iup P D (N : Int)) q S' T' ∧ T'.1 621 25 = 0 ∧ T'.1 621 27 = T.1 621 27 + 1 ∧ T'.1 621 39 = (N : Int)
/-- the reference's frame -/
def LFr (N : Nat) (T T' : ev_St) : Prop := (∀ c g, ¬ (c = 635 ∧ g = 12) → ¬ (625 ≤ c ∧ c ≤ 632) → ¬ (c = 621 ∧ (g = 25 ∨ g = 27 ∨ g = 38 ∨ g = 39)) → T'.1 c g = T.1 c g) ∧ (∀ c g, ¬ (633 ≤ c ∧ c ≤ 634 ∧ g = 3840 + N) → T'.2.1 c g = T.2.1 c g) ∧ T'.2.2 = T.2.2
theorem leaf_set {l h a b : Int64} (hR : RDR k N M D φ ψ own G R P q S T) (hk : ev_isOb k 5 = true) (hkr : 232 ≤ k) (h9 : S.2.2.1 3 9 = k + 1) (hM : M < 400) (hN : N < 320) (hc : S.1 3 14 = T.1 621 27 ∧ 0 ≤ T.1 621 27 ∧ T.1 621 27 ≤ 150) (hb : T.1 621 25 = 0) (hB : SB l h a b) (hV : SV l h) : ∃ T', jm_238 Q a b T = some ((), T') ∧ LFo k N M D φ ψ own G R P q 0 0 0 S T (jm_90 Q l h S) T' ∧ LFr N T T' := by
  obtain ⟨b1, b2, b3⟩ := RDR_b hR
  obtain ⟨_, _, _, _, _, _, _, _, l9, l10, _⟩ := al_N
  obtain ⟨T1, t1, ⟨t2, t3, t4, t5, t6, t7⟩, ⟨u1, u2, u3, u4, u5, u6, u7, u8, u9, u10⟩, f1, f2, f3⟩ := sp_237 (Q := Q) (a := 0) (m := N) hR.1.1 hN (by omega) hb b1 b2
  have lk := lk_i (T.1 621 38) (T.1 621 37)
  have run : jm_238 Q a b T = some ((), ev_pL (ev_pL T1 633 (3840 + N) a) 634 (3840 + N) b) := by
    unfold jm_238
    rw [sp_232, sp_bd, t1, sp_bd, sp_ck (by omega), sp_if (by rw [l9]; omega), show ((3840 : Int) + (N : Int)).toNat = 3840 + N from by omega, sp_b, sp_if (by rw [l10]; omega), sp_b]
  have L1 : (ev_pL (ev_pL T1 633 (3840 + N) a) 634 (3840 + N) b).2.1 633 (3840 + N) = a := (rdL_nk (by omega)).trans rd_L
  have L2 : (ev_pL (ev_pL T1 633 (3840 + N) a) 634 (3840 + N) b).2.1 634 (3840 + N) = b := rd_L
  have LF : ∀ c g, ¬ (633 ≤ c ∧ c ≤ 634 ∧ g = 3840 + N) → (ev_pL (ev_pL T1 633 (3840 + N) a) 634 (3840 + N) b).2.1 c g = T.2.1 c g := fun c g hh => by
    rw [sp_pL2, if_neg (by omega), sp_pL2, if_neg (by omega), f2 c g hh]
  refine ⟨_, run, ?_, fun c g h1 h2 h3 => f1 c g h1 (fun z => h2 ⟨z.1, z.2.1⟩) h3 (fun z => h2 (by omega)), LF, f3⟩
  rcases sp_90 (Q := Q) (l := l) (h := h) (n := M) (d := D) hk hkr h9 hR.1.2.2.1 hR.1.2.2.2.2 hR.1.2.1 hM b3 (by omega) with ⟨c1, S', c2⟩ | ⟨c1, S', c2, c3, ⟨c4, c5⟩, c6⟩
  · refine Or.inl ⟨S', c2, ?_⟩
    show T1.1 621 25 = 1
    rw [t4, if_pos (by omega)]
  · refine Or.inr ⟨S', c2, c3, ?_, ?_, t3, t6⟩
    · refine RDR_leaf hR hkr c3 c6 ⟨t2, t5, t7⟩ ⟨u2, u3, u6, ?_⟩ f1 LF ⟨?_, fun _ => ?_, fun z => ?_, fun z => ?_⟩
      · show T1.1 625 (3840 + N) ≠ 18
        rw [u1]
        decide
      · show _ = kcl (T1.1 625 (3840 + N)) (T1.1 629 (3840 + N))
        rw [c3.1.2.1, u1]
        rfl
      · rw [c4, c5, L1, L2]
        exact ⟨hB, hV⟩
      · have z' : T1.1 625 (3840 + N) = 7 ∨ T1.1 625 (3840 + N) = 8 ∨ T1.1 625 (3840 + N) = 13 ∨ T1.1 625 (3840 + N) = 14 := z
        rw [u1] at z'
        omega
      · have z' : T1.1 625 (3840 + N) = 7 := z
        rw [u1] at z'
        omega
    · show T1.1 621 25 = 0
      rw [t4, if_neg (by omega)]
/-- a leaf of the kind c with the number n and the flag f -/
theorem leaf_kind {x y z : Int} (c n f : Int) (hR : RDR k N M D φ ψ own G R P q S T) (hk : ev_isOb k 5 = true) (hkr : 232 ≤ k) (h9 : S.2.2.1 3 9 = k + 1) (hM : M < 400) (hN : N < 320) (hc : S.1 3 14 = T.1 621 27 ∧ 0 ≤ T.1 621 27 ∧ T.1 621 27 ≤ 150) (hb : T.1 621 25 = 0) (hx : x = kcl c f) (h0 : c ≠ 0 ∧ c ≠ 18) (hy : c = 7 ∨ c = 8 ∨ c = 13 ∨ c = 14 → y = n) (hz : c = 7 → z = f) : ∃ T1, jm_237 Q c T = some ((N : Int), T1) ∧ (T1.1 628 (3840 + N) = 0 ∧ T1.1 629 (3840 + N) = 0) ∧ ∀ T', (T'.1 628 (3840 + N) = n ∧ T'.1 629 (3840 + N) = f) → (∀ a g, ¬ ((a = 628 ∨ a = 629) ∧ g = 3840 + N) → T'.1 a g = T1.1 a g) → T'.2 = T1.2 → LFo k N M D φ ψ own G R P q x y z S T (jm_88 Q x y z S) T' ∧ LFr N T T' := by
  obtain ⟨b1, b2, b3⟩ := RDR_b hR
  obtain ⟨T1, t1, ⟨t2, t3, t4, t5, t6, t7⟩, ⟨u1, u2, u3, u4, u5, u6, u7, u8, u9, u10⟩, f1, f2, f3⟩ := sp_237 (Q := Q) (a := c) (m := N) hR.1.1 hN (by omega) hb b1 b2
  have lk := lk_i (T.1 621 38) (T.1 621 37)
  refine ⟨T1, t1, ⟨u4, u5⟩, fun T' ⟨v1, v2⟩ v3 v4 => ⟨?_, fun a g h1 h2 h3 => by rw [v3 a g (by omega), f1 a g h1 (fun w => h2 ⟨w.1, w.2.1⟩) h3 (fun w => h2 (by omega))], fun a g hh => by rw [v4, f2 a g hh], by rw [v4, f3]⟩⟩
  rcases sp_88 (Q := Q) (a := x) (b := y) (c := z) (n := M) (d := D) hk hkr h9 hR.1.2.2.1 hR.1.2.2.2.2 hR.1.2.1 hM b3 (by omega) with ⟨c1, S', c2⟩ | ⟨c1, S', c2, c3, c4⟩
  · refine Or.inl ⟨S', c2, ?_⟩
    rw [v3 _ _ (by omega), t4, if_pos (by omega)]
  · refine Or.inr ⟨S', c2, c3, ?_, ?_, ?_, ?_⟩
    · refine RDR_leaf hR hkr c3 (fun x g _ => by rw [c4]) ⟨by rw [v3 _ _ (by omega), t2], by rw [v3 _ _ (by omega), t5], by rw [v3 _ _ (by omega), t7]⟩ ⟨by rw [v3 _ _ (by omega), u2], by rw [v3 _ _ (by omega), u3], by rw [v3 _ _ (by omega), u6], by rw [v3 _ _ (by omega), u1]; exact h0.2⟩ (fun a g h1 h2 h3 h4 => by rw [v3 a g (by omega), f1 a g h1 h2 h3 h4]) (fun a g hh => by rw [v4, f2 a g hh]) ⟨?_, fun w => ?_, fun w => ?_, fun w => ?_⟩
      · rw [c3.1.2.1, v3 625 _ (by omega), u1, v2, hx]
      · rw [v3 625 _ (by omega), u1] at w
        exact absurd w h0.1
      · rw [v3 625 _ (by omega), u1] at w
        rw [c3.1.2.2.1, v1]
        exact hy w
      · rw [v3 625 _ (by omega), u1] at w
        rw [c3.1.2.2.2.1, v2]
        exact hz w
    · rw [v3 _ _ (by omega), t4, if_neg (by omega)]
    · rw [v3 _ _ (by omega), t3]
    · rw [v3 _ _ (by omega), t6]
end LEAF2
