/-! CLASSES OF CHARACTERS: step by step on both sides -/
theorem pI_pI {S : ev_St} {k f : Nat} {x y : Int} : ev_pI (ev_pI S k f x) k f y = ev_pI S k f y := by
  have h : (ev_pI (ev_pI S k f x) k f y).1 = (ev_pI S k f y).1 := funext fun a => funext fun b => by
    rw [sp_pI1, sp_pI1, sp_pI1]
    split <;> rfl
  exact Prod.ext h rfl
/-- one level: what is read so far, and whether there is something -/
def CLv (l9 l10 a3 a4 : Int64) (s11 t6 s12 t5 s13 t7 : Int) (l7 l8 a1 a2 : Int64) : Prop := SB l9 l10 a3 a4 ∧ SV l9 l10 ∧ (s11 = t6 ∧ (t6 = 0 ∨ t6 = 1)) ∧ (s12 = t5 ∧ (t5 = 0 ∨ t5 = 1)) ∧ ((s13 = 0 ∧ t7 = 0) ∨ (((s13 = 38 ∧ t7 = 1) ∨ (s13 = 45 ∧ t7 = 2)) ∧ SB l7 l8 a1 a2 ∧ SV l7 l8))
def CL (S T : ev_St) (i : Nat) : Prop := CLv (S.2.1 9 i) (S.2.1 10 i) (T.2.1 653 i) (T.2.1 654 i) (S.1 11 i) (T.1 656 i) (S.1 12 i) (T.1 655 i) (S.1 13 i) (T.1 657 i) (S.2.1 7 i) (S.2.1 8 i) (T.2.1 651 i) (T.2.1 652 i)
/-- the text's cell -/
def isTx (w : Nat) : Prop := w = 1 ∨ (169 ≤ w ∧ w < 221)
def CRel (k w : Nat) (S T : ev_St) : Prop := (isTx w ∧ S.1 6 7 = (k : Int) ∧ S.2.2.1 6 8 = w + 1) ∧ RT S w T ∧ (S.1 6 9 = rpos T ∧ (k : Int) + 1 ≤ rpos T ∧ rpos T ≤ S.1 w 1) ∧ T.1 621 25 = 0 ∧ ((S.1 6 10 = 0 ∧ ev_iand (T.1 621 40) 1 = 0) ∨ (S.1 6 10 = 1 ∧ ev_iand (T.1 621 40) 1 = 1)) ∧ ∀ i, i ≤ k → CL S T i
theorem CL_c {S T S2 T2 : ev_St} {i : Nat} (h : CL S T i) (h1 : ∀ a, 11 ≤ a → a ≤ 13 → S2.1 a i = S.1 a i) (h2 : ∀ a, 7 ≤ a → a ≤ 10 → S2.2.1 a i = S.2.1 a i) (h3 : ∀ a, 655 ≤ a → a ≤ 657 → T2.1 a i = T.1 a i) (h4 : ∀ a, 651 ≤ a → a ≤ 654 → T2.2.1 a i = T.2.1 a i) : CL S2 T2 i := by
  unfold CL at h ⊢
  rw [h1 11 (by omega) (by omega), h1 12 (by omega) (by omega), h1 13 (by omega) (by omega), h2 7 (by omega) (by omega), h2 8 (by omega) (by omega), h2 9 (by omega) (by omega), h2 10 (by omega) (by omega), h3 655 (by omega) (by omega), h3 656 (by omega) (by omega), h3 657 (by omega) (by omega), h4 651 (by omega) (by omega), h4 652 (by omega) (by omega), h4 653 (by omega) (by omega), h4 654 (by omega) (by omega)]
  exact h
section STEP
variable {Q k w : Nat} {S T : ev_St}
theorem CRel_k (h : CRel k w S T) : k + 1 ≤ 120 ∧ S.1 w 1 ≤ 120 := by
  obtain ⟨_, hr, ⟨_, h1, h2⟩, _⟩ := h
  have := hr.2.1
  omega
/-- characters are put into the operand, on both sides -/
theorem CR_put {l h : Int64} (hC : CRel k w S T) {T1 : ev_St} (hB : SB l h (T1.2.1 621 41) (T1.2.1 621 42)) (hV : SV l h) {S1 : ev_St} (s1 : ∀ a g, ¬ (a = 6 ∧ g = 9) → S1.1 a g = S.1 a g) (s2 : S1.2 = S.2) (t1 : ∀ a g, ¬ (a = 645 ∧ g = (T.1 621 28).toNat) → ¬ (a = 621 ∧ g = 25) → T1.1 a g = T.1 a g) (t2 : ∀ a g, ¬ (a = 621 ∧ (g = 41 ∨ g = 42)) → T1.2.1 a g = T.2.1 a g) (t3 : T1.2.2 = T.2.2) (hb : T1.1 621 25 = 0) (hp : S1.1 6 9 = rpos T1) (hp1 : rpos T < rpos T1 ∧ rpos T1 ≤ S.1 w 1) : ∃ S' T', jm_22 Q l h S1 = some (1, S') ∧ jm_249 Q (k : Int) T1 = some ((), T') ∧ CRel k w S' T' ∧ rpos T' = rpos T1 := by
  have hk := (CRel_k hC).1
  obtain ⟨⟨c1, c2, c3⟩, c4, ⟨c5, c6, c7⟩, c8, c9, c10⟩ := hC
  have e28 : T1.1 621 28 = T.1 621 28 := t1 _ _ (by omega) (by omega)
  refine ⟨_, _, sp_22 (k := k) (by rw [s1 6 7 (by omega), c2]) (by omega), sp_249 (by omega), ?_, ?_⟩
  · have f1 : ∀ a g, ¬ (a = 11 ∧ g = k) → (ev_pI (ev_pL (ev_pL S1 9 k (S1.2.1 9 k ||| l)) 10 k (S1.2.1 10 k ||| h)) 11 k 1).1 a g = S1.1 a g := fun a g hg => if_neg hg
    have f2 : ∀ a g, ¬ ((a = 9 ∨ a = 10) ∧ g = k) → (ev_pI (ev_pL (ev_pL S1 9 k (S1.2.1 9 k ||| l)) 10 k (S1.2.1 10 k ||| h)) 11 k 1).2.1 a g = S.2.1 a g := fun a g hg => by
      show (ev_pL (ev_pL S1 9 k (S1.2.1 9 k ||| l)) 10 k (S1.2.1 10 k ||| h)).2.1 a g = _
      rw [sp_pL2, if_neg (by omega), sp_pL2, if_neg (by omega), s2]
    have g1 : ∀ a g, ¬ (a = 656 ∧ g = k) → (ev_pI (ev_pL (ev_pL T1 653 k (T1.2.1 653 k ||| T1.2.1 621 41)) 654 k (T1.2.1 654 k ||| T1.2.1 621 42)) 656 k 1).1 a g = T1.1 a g := fun a g hg => if_neg hg
    have g2 : ∀ a g, ¬ ((a = 653 ∨ a = 654) ∧ g = k) → a ≠ 621 → (ev_pI (ev_pL (ev_pL T1 653 k (T1.2.1 653 k ||| T1.2.1 621 41)) 654 k (T1.2.1 654 k ||| T1.2.1 621 42)) 656 k 1).2.1 a g = T.2.1 a g := fun a g hg ha => by
      show (ev_pL (ev_pL T1 653 k (T1.2.1 653 k ||| T1.2.1 621 41)) 654 k (T1.2.1 654 k ||| T1.2.1 621 42)).2.1 a g = _
      rw [sp_pL2, if_neg (by omega), sp_pL2, if_neg (by omega), t2 a g (by omega)]
    have v9 : (ev_pI (ev_pL (ev_pL S1 9 k (S1.2.1 9 k ||| l)) 10 k (S1.2.1 10 k ||| h)) 11 k 1).2.1 9 k = S.2.1 9 k ||| l := by
      show (ev_pL (ev_pL S1 9 k (S1.2.1 9 k ||| l)) 10 k (S1.2.1 10 k ||| h)).2.1 9 k = _
      rw [rdL_nk (by omega), rd_L, s2]
    have v10 : (ev_pI (ev_pL (ev_pL S1 9 k (S1.2.1 9 k ||| l)) 10 k (S1.2.1 10 k ||| h)) 11 k 1).2.1 10 k = S.2.1 10 k ||| h := by
      show (ev_pL (ev_pL S1 9 k (S1.2.1 9 k ||| l)) 10 k (S1.2.1 10 k ||| h)).2.1 10 k = _
      rw [rd_L, s2]
    have w3 : (ev_pI (ev_pL (ev_pL T1 653 k (T1.2.1 653 k ||| T1.2.1 621 41)) 654 k (T1.2.1 654 k ||| T1.2.1 621 42)) 656 k 1).2.1 653 k = T.2.1 653 k ||| T1.2.1 621 41 := by
      show (ev_pL (ev_pL T1 653 k (T1.2.1 653 k ||| T1.2.1 621 41)) 654 k (T1.2.1 654 k ||| T1.2.1 621 42)).2.1 653 k = _
      rw [rdL_nk (by omega), rd_L, t2 653 k (by omega)]
    have w4 : (ev_pI (ev_pL (ev_pL T1 653 k (T1.2.1 653 k ||| T1.2.1 621 41)) 654 k (T1.2.1 654 k ||| T1.2.1 621 42)) 656 k 1).2.1 654 k = T.2.1 654 k ||| T1.2.1 621 42 := by
      show (ev_pL (ev_pL T1 653 k (T1.2.1 653 k ||| T1.2.1 621 41)) 654 k (T1.2.1 654 k ||| T1.2.1 621 42)).2.1 654 k = _
      rw [rd_L, t2 654 k (by omega)]
    have v11 : (ev_pI (ev_pL (ev_pL S1 9 k (S1.2.1 9 k ||| l)) 10 k (S1.2.1 10 k ||| h)) 11 k 1).1 11 k = 1 := rd_eq
    have w6 : (ev_pI (ev_pL (ev_pL T1 653 k (T1.2.1 653 k ||| T1.2.1 621 41)) 654 k (T1.2.1 654 k ||| T1.2.1 621 42)) 656 k 1).1 656 k = 1 := rd_eq
    have s3 : (ev_pI (ev_pL (ev_pL S1 9 k (S1.2.1 9 k ||| l)) 10 k (S1.2.1 10 k ||| h)) 11 k 1).2.2 = S.2.2 := by
      show S1.2.2 = _
      rw [s2]
    generalize ev_pI (ev_pL (ev_pL S1 9 k (S1.2.1 9 k ||| l)) 10 k (S1.2.1 10 k ||| h)) 11 k 1 = S' at *
    generalize ev_pI (ev_pL (ev_pL T1 653 k (T1.2.1 653 k ||| T1.2.1 621 41)) 654 k (T1.2.1 654 k ||| T1.2.1 621 42)) 656 k 1 = T' at *
    have rp : rpos T' = rpos T1 := by
      unfold rpos
      rw [g1 621 28 (by omega), g1 645 _ (by omega)]
    have wS : ∀ g, S'.1 w g = S.1 w g := fun g => by
      unfold isTx at c1
      rw [f1 w g (by omega), s1 w g (by omega)]
    have wS1 : ∀ g, S'.1 (w + 1) g = S.1 (w + 1) g := fun g => by
      unfold isTx at c1
      rw [f1 _ g (by omega), s1 _ g (by omega)]
    refine ⟨⟨c1, by rw [f1 6 7 (by omega), s1 6 7 (by omega), c2], by rw [s3, c3]⟩, RT_c (RT_cS c4 wS wS1) (fun a g ha => by rw [g1 a g (by omega), t1 a g (by omega) (by omega)]), ⟨by rw [f1 6 9 (by omega), rp, hp], by rw [rp]; omega, by rw [rp, wS]; omega⟩, by rw [g1 _ _ (by omega), hb], by rw [f1 6 10 (by omega), s1 6 10 (by omega), g1 621 40 (by omega), t1 621 40 (by omega) (by omega)]; exact c9, fun i hi => ?_⟩
    by_cases e : i = k
    · subst e
      have q := c10 i (Nat.le_refl _)
      unfold CL at q ⊢
      rw [v9, v10, w3, w4, v11, w6, f1 12 i (by omega), s1 12 i (by omega), f1 13 i (by omega), s1 13 i (by omega), g1 655 i (by omega), t1 655 i (by omega) (by omega), g1 657 i (by omega), t1 657 i (by omega) (by omega), f2 7 i (by omega), f2 8 i (by omega), g2 651 i (by omega) (by omega), g2 652 i (by omega) (by omega)]
      exact ⟨SB_or q.1 hB, SV_or q.2.1 hV, ⟨rfl, Or.inr rfl⟩, q.2.2.2.1, q.2.2.2.2⟩
    · exact CL_c (c10 i hi) (fun a h1 h2 => by rw [f1 a i (by omega), s1 a i (by omega)]) (fun a h1 h2 => f2 a i (by omega)) (fun a h1 h2 => by rw [g1 a i (by omega), t1 a i (by omega) (by omega)]) (fun a h1 h2 => g2 a i (by omega) (by omega))
  · unfold rpos
    show T1.1 645 (T1.1 621 28).toNat = _
    rfl
end STEP
