/-! THE LOG over a search: the class's references to its own search may change -/
section OSG
variable {n : Int} {D : lg_D} {E c m : Nat} {S T S2 T2 : ev_St}
def RGs (S S2 : ev_St) : Prop := ∀ a j, a = 259 ∨ a = 260 → S2.2.2.1 a j = S.2.2.1 a j
theorem lg_r_c2 {a i : Nat} (hW : lg_W S) (ha : a = 259 ∨ a = 260) (h1 : RGs S S2) (h2 : ∀ k g, 724 ≤ k → S2.1 k g = S.1 k g) : lg_r a S2 i = lg_r a S i := by
  unfold lg_r
  rw [h1 a _ ha]
  by_cases h : S.2.2.1 a (i / 1024) = 0
  · rw [if_pos h, if_pos h]
  · rw [if_neg h, if_neg h, h2 _ _ (by have := hW.2.1 a _ ha h; omega)]
theorem lg_W_c2 (hW : lg_W S) (h1 : RGs S S2) (h2 : ev_sN S2 = ev_sN S) : lg_W S2 := by
  obtain ⟨w1, w2, w3, w4⟩ := hW
  refine ⟨by rw [h2]; exact w1, fun a i ha h => ?_, fun a i b j ha hb h1' h2' => ?_, ?_⟩
  · rw [h1 a i ha] at h ⊢
    rw [h2]
    exact w2 a i ha h
  · rw [h1 a i ha] at h1' h2'
    rw [h1 b j hb] at h2'
    exact w3 a i b j ha hb h1' h2'
  · rw [h2, lg_n_c (a := 259) (S := S2) (T := S) (fun i => by rw [h1 259 i (Or.inl rfl)]), lg_n_c (a := 260) (S := S2) (T := S) (fun i => by rw [h1 260 i (Or.inr rfl)])]
    exact w4
theorem lg_H_c2 (h : lg_H D E S T) (hW : lg_W S) (h1 : RGs S S2) (h2 : ∀ k g, 724 ≤ k → S2.1 k g = S.1 k g) (h3 : ∀ k g, k = 712 ∨ k = 713 → T2.1 k g = T.1 k g) : lg_H D E S2 T2 := by
  refine ⟨fun k hk => ?_, fun j hj => ?_⟩
  · rw [lg_r_c2 hW (Or.inl rfl) h1 h2, h3 712 k (Or.inl rfl)]
    exact h.1 k hk
  · rw [lg_r_c2 hW (Or.inr rfl) h1 h2, h3 713 j (Or.inr rfl)]
    exact h.2 j hj
theorem lg_C_c2 (h : lg_C D E c S T) (hS : ∀ k g, (k = 254 ∧ (g = 4 ∨ g = 9 ∨ g = 10)) ∨ (256 ≤ k ∧ k ≤ 258) ∨ (263 ≤ k ∧ k ≤ 268) ∨ 724 ≤ k → S2.1 k g = S.1 k g) (hR : RGs S S2) (hN : ev_sN S2 = ev_sN S) (hT : ∀ k g, 707 ≤ k ∧ k ≤ 713 ∨ (k = 621 ∧ g = 121) → T2.1 k g = T.1 k g) : lg_C D E c S2 T2 := by
  obtain ⟨c1, ⟨c2, c3, c4⟩, c5, c6, c7, c8, c9⟩ := h
  exact ⟨c1, ⟨by rw [hS 254 9 (by omega), c2], by rw [hS 254 10 (by omega), c3], fun b hb => by rw [hS _ _ (by omega), c4 b hb]⟩, lg_W_c2 c5 hR hN, t2_B_c c6 (fun b g h1 h2 => hS b g (by omega)) (fun b g hb => hT b g (by omega)), t2_M_c c7 (hS _ _ (by omega)) (fun b g h1 h2 => hS b g (by omega)) (fun b hb => hS _ _ (by omega)) (hT _ _ (by omega)) (fun b g h1 h2 => hT b g (by omega)), c8, lg_H_c2 c9 c5 hR (fun k g hk => hS k g (by omega)) (fun k g hk => hT k g (by omega))⟩
theorem lg_T_c2 (h : lg_T n D E c S T) (hS : ∀ k g, (k = 254 ∧ (g = 4 ∨ (9 ≤ g ∧ g ≤ 14))) ∨ (256 ≤ k ∧ k ≤ 258) ∨ k = 261 ∨ (263 ≤ k ∧ k ≤ 268) ∨ 724 ≤ k → S2.1 k g = S.1 k g) (hR : RGs S S2) (hN : ev_sN S2 = ev_sN S) (hT : ∀ k g, 707 ≤ k ∧ k ≤ 715 ∨ (k = 621 ∧ (g = 121 ∨ (125 ≤ g ∧ g ≤ 132))) → T2.1 k g = T.1 k g) : lg_T n D E c S2 T2 := by
  obtain ⟨hC, t1, t4, t6, t8, t9, t10, t11⟩ := h
  have e714 : T2.1 714 = T.1 714 := funext fun g => hT 714 g (by omega)
  unfold lg_T
  rw [e714, hS 254 11 (by omega), hS 254 12 (by omega), hS 254 14 (by omega), hT 621 130 (by omega), hT 621 131 (by omega), hT 621 132 (by omega), hT 621 126 (by omega), hT 621 125 (by omega), hT 621 128 (by omega)]
  refine ⟨lg_C_c2 hC (fun k g hk => hS k g (by omega)) hR hN (fun k g hk => hT k g (by omega)), t1, t4, t6, t8, t9, t10, fun g hg => ?_⟩
  rw [hS 261 g (by omega), hT 715 g (by omega)]
  exact t11 g hg
theorem L2_c2 (h : L2 n D S T) (hS : ∀ k g, (k = 254 ∧ (g = 4 ∨ (9 ≤ g ∧ g ≤ 14))) ∨ (256 ≤ k ∧ k ≤ 258) ∨ k = 261 ∨ (263 ≤ k ∧ k ≤ 268) ∨ 724 ≤ k → S2.1 k g = S.1 k g) (hR : RGs S S2) (hN : ev_sN S2 = ev_sN S) (hT : ∀ k g, 707 ≤ k ∧ k ≤ 715 ∨ (k = 621 ∧ (g = 121 ∨ (125 ≤ g ∧ g ≤ 132))) → T2.1 k g = T.1 k g) : L2 n D S2 T2 := by
  obtain ⟨h1, h2, h3, h4, h5, h6, E, e1, e2, e3, e4, e5, e6⟩ := h
  have e714 : T2.1 714 = T.1 714 := funext fun g => hT 714 g (by omega)
  have s : ∀ g, 9 ≤ g → g ≤ 14 → S2.1 254 g = S.1 254 g := fun g a b => hS 254 g (by omega)
  have t : ∀ g, 125 ≤ g → g ≤ 132 → T2.1 621 g = T.1 621 g := fun g a b => hT 621 g (by omega)
  unfold L2
  rw [e714, s 9 (by omega) (by omega), s 11 (by omega) (by omega), s 12 (by omega) (by omega), s 13 (by omega) (by omega), s 14 (by omega) (by omega), t 130 (by omega) (by omega), t 131 (by omega) (by omega), t 132 (by omega) (by omega), t 126 (by omega) (by omega), t 125 (by omega) (by omega), t 128 (by omega) (by omega)]
  refine ⟨h1, h2, h3, h4, h5, fun g hg => ?_, E, e1, lg_C_c2 e2 (fun k g hk => hS k g (by omega)) hR hN (fun k g hk => hT k g (by omega)), e3, e4, e5, e6⟩
  rw [hS 261 g (by omega), hT 715 g (by omega)]
  exact h6 g hg
theorem LG_c2 (h : LG n D S) (hS : ∀ k g, (k = 254 ∧ (g = 4 ∨ (9 ≤ g ∧ g ≤ 14))) ∨ (256 ≤ k ∧ k ≤ 258) ∨ k = 261 ∨ (263 ≤ k ∧ k ≤ 268) ∨ 724 ≤ k → S2.1 k g = S.1 k g) (hR : RGs S S2) (hN : ev_sN S2 = ev_sN S) (hT : ∀ k g, 707 ≤ k ∧ k ≤ 715 ∨ (k = 621 ∧ (g = 121 ∨ (125 ≤ g ∧ g ≤ 132))) → S2.1 k g = S.1 k g) : LG n D S2 := LG_of (L2_c2 (L2_of h) hS hR hN hT)
end OSG
