/-! THE READER: items of a row stand in one text, one behind another -/
section RGHO
variable {lv N D : Nat} {y G G2 : Nat → Nat} {P P2 K X V O K2 X2 V2 O2 : Nat → Int} {c : Int}
/-- the least that an item takes of its text as it begins -/
def cst (c : Int) : Nat := if c = 8 then 1 else if c = 9 ∨ c = 14 then 3 else 0
/-- how many texts are open -/
def levc (O : Nat → Int) : Nat → Nat
  | 0 => 0
  | i + 1 => levc O i + if O (i + 1) ≠ 0 then 1 else 0
theorem levc_c : ∀ i, (∀ j, 1 ≤ j → j ≤ i → O2 j = O j) → levc O2 i = levc O i
  | 0, _ => rfl
  | i + 1, h => by
    show levc O2 i + _ = levc O i + _
    rw [levc_c i (fun j h1 h2 => h j h1 (by omega)), h (i + 1) (by omega) (by omega)]
theorem levc_m : ∀ i j, i ≤ j → levc O i ≤ levc O j
  | i, 0, h => by
    have : i = 0 := by omega
    rw [this]
    exact Nat.le_refl _
  | i, j + 1, h => by
    by_cases e : i = j + 1
    · rw [e]
      exact Nat.le_refl _
    · have := levc_m i j (by omega)
      show levc O i ≤ levc O j + _
      omega
def GH (lv N D : Nat) (y G : Nat → Nat) (P K X V O : Nat → Int) : Prop := levc O D = lv ∧ (∀ m, m < N → K m ≠ 18 → m ≠ 0 → y m + cst (K m) ≤ 120) ∧ (∀ m t : Nat, m < N → K m ≠ 18 → X m = (t : Int) → t < N ∧ y m + cst (K m) ≤ y t) ∧ ∀ i, i ≤ D → (∀ t : Nat, P i = (t : Int) → t < N ∧ K t ≠ 18 ∧ ((y t + cst (K t) : Nat) : Int) ≤ V (levc O i)) ∧ (i < D → G (i + 1) < N ∧ K (G (i + 1)) ≠ 18 ∧ G (i + 1) ≠ 0 ∧ ((y (G (i + 1)) + cst (K (G (i + 1))) : Nat) : Int) ≤ V (levc O i))
/-- a leaf -/
theorem GH_leaf (h : GH lv N D y G P K X V O) (hN : N ≠ 0) (hK : ∀ m, m < N → K2 m = K m) (hX : ∀ m, m < N → X2 m = X m ∨ (P D = (m : Int) ∧ X2 m = (N : Int))) (hc : K2 N ≠ 18) (hX2 : X2 N = -1) (h0 : 0 ≤ V lv) (hV : V lv + cst (K2 N) ≤ V2 lv) (hVm : V2 lv ≤ 120) (hV2 : ∀ j, j < lv → V2 j = V j) (hO : ∀ i, 1 ≤ i → i ≤ D → O2 i = O i) : GH lv (N + 1) D (nup y N (V lv).toNat) G (iup P D (N : Int)) K2 X2 V2 O2 := by
  obtain ⟨h1, h2, h3, h4⟩ := h
  have yt : ∀ m, m < N → nup y N (V lv).toNat m = y m := fun m hm => nup_ne (by omega)
  have le : ∀ i, i ≤ D → levc O2 i = levc O i := fun i hi => levc_c i (fun j a b => hO j a (by omega))
  have lm : ∀ i, i ≤ D → levc O i ≤ lv := fun i hi => by rw [← h1]; exact levc_m i D hi
  have vm : ∀ i, i ≤ D → V (levc O i) ≤ V2 (levc O i) := fun i hi => by
    by_cases e : levc O i = lv
    · rw [e]; omega
    · rw [hV2 _ (by have := lm i hi; omega)]; exact Int.le_refl _
  refine ⟨by rw [le D (Nat.le_refl _), h1], fun m hm hk h0' => ?_, fun m t hm hk hx => ?_, fun i hi => ⟨fun t ht => ?_, fun hi2 => ?_⟩⟩
  · by_cases e : m = N
    · subst e
      rw [nup_eq]
      omega
    · rw [yt m (by omega), hK m (by omega)]
      rw [hK m (by omega)] at hk
      exact h2 m (by omega) hk h0'
  · by_cases e : m = N
    · subst e
      omega
    · have hm' : m < N := by omega
      rw [hK m hm'] at hk ⊢
      rcases hX m hm' with z | ⟨z1, z2⟩
      · rw [z] at hx
        have := h3 m t hm' hk hx
        rw [yt m hm', yt t this.1]
        omega
      · have e2 : t = N := by omega
        subst e2
        have := ((h4 D (Nat.le_refl _)).1 m z1).2.2
        rw [h1] at this
        rw [yt m hm', nup_eq]
        omega
  · rw [le i hi]
    by_cases e : i = D
    · subst e
      rw [iup_eq] at ht
      have e2 : t = N := by omega
      subst e2
      rw [nup_eq, h1]
      exact ⟨by omega, hc, by omega⟩
    · rw [iup_ne e] at ht
      have := (h4 i hi).1 t ht
      rw [yt t this.1, hK t this.1]
      exact ⟨by omega, this.2.1, Int.le_trans this.2.2 (vm i hi)⟩
  · have := (h4 i hi).2 hi2
    rw [le i hi, yt _ this.1, hK _ this.1]
    exact ⟨by omega, this.2.1, this.2.2.1, Int.le_trans this.2.2.2 (vm i hi)⟩
/-- a group opens: by a bracket (x = 0), or as a text -/
theorem GH_open {x : Int} (h : GH lv N D y G P K X V O) (hN : N ≠ 0) (hK : ∀ m, m < N → K2 m = K m) (hX : ∀ m, m < N → X2 m = X m ∨ (P D = (m : Int) ∧ X2 m = (N : Int))) (hc : K2 N ≠ 18) (hc1 : K2 (N + 1) = 18) (hX2 : X2 N = -1) (h0 : 0 ≤ V lv) (hV : V lv + cst (K2 N) ≤ V2 lv) (hVm : V2 lv ≤ 120) (hV2 : ∀ j, j < lv → V2 j = V j) (hO : ∀ i, 1 ≤ i → i ≤ D → O2 i = O i) (hx : O2 (D + 1) = x) (hG : ∀ i, i ≤ D → G2 i = G i) (hG2 : G2 (D + 1) = N) (hP : ∀ i, i ≤ D → P2 i = P i) (hP2 : P2 (D + 1) = -1) : GH (lv + if x ≠ 0 then 1 else 0) (N + 2) (D + 1) (nup y N (V lv).toNat) G2 P2 K2 X2 V2 O2 := by
  obtain ⟨h1, h2, h3, h4⟩ := h
  have yt : ∀ m, m < N → nup y N (V lv).toNat m = y m := fun m hm => nup_ne (by omega)
  have le : ∀ i, i ≤ D → levc O2 i = levc O i := fun i hi => levc_c i (fun j a b => hO j a (by omega))
  have lm : ∀ i, i ≤ D → levc O i ≤ lv := fun i hi => by rw [← h1]; exact levc_m i D hi
  have vm : ∀ i, i ≤ D → V (levc O i) ≤ V2 (levc O i) := fun i hi => by
    by_cases e : levc O i = lv
    · rw [e]; omega
    · rw [hV2 _ (by have := lm i hi; omega)]; exact Int.le_refl _
  have k18 : ∀ m, m < N + 2 → K2 m ≠ 18 → m < N ∨ m = N := fun m hm hk => by
    by_cases e : m = N + 1
    · subst e
      exact absurd hc1 hk
    · omega
  refine ⟨?_, fun m hm hk h0' => ?_, fun m t hm hk hx' => ?_, fun i hi => ⟨fun t ht => ?_, fun hi2 => ?_⟩⟩
  · show levc O2 D + _ = _
    rw [le D (Nat.le_refl _), h1, hx]
  · rcases k18 m hm hk with e | e
    · rw [yt m e, hK m e]
      rw [hK m e] at hk
      exact h2 m e hk h0'
    · subst e
      rw [nup_eq]
      omega
  · rcases k18 m hm hk with hm' | e
    · rw [hK m hm'] at hk ⊢
      rcases hX m hm' with z | ⟨z1, z2⟩
      · rw [z] at hx'
        have := h3 m t hm' hk hx'
        rw [yt m hm', yt t this.1]
        omega
      · have e2 : t = N := by omega
        subst e2
        have := ((h4 D (Nat.le_refl _)).1 m z1).2.2
        rw [h1] at this
        rw [yt m hm', nup_eq]
        omega
    · subst e
      omega
  · by_cases e : i = D + 1
    · subst e
      omega
    · have hi' : i ≤ D := by omega
      rw [hP i hi'] at ht
      have := (h4 i hi').1 t ht
      rw [le i hi', yt t this.1, hK t this.1]
      exact ⟨by omega, this.2.1, Int.le_trans this.2.2 (vm i hi')⟩
  · have hi' : i ≤ D := by omega
    rw [le i hi']
    by_cases e : i = D
    · subst e
      rw [hG2, nup_eq, h1]
      exact ⟨by omega, hc, hN, by omega⟩
    · have := (h4 i hi').2 (by omega)
      rw [hG (i + 1) (by omega), yt _ this.1, hK _ this.1]
      exact ⟨by omega, this.2.1, this.2.2.1, Int.le_trans this.2.2.2 (vm i hi')⟩
/-- a group closes -/
theorem GH_close {lw : Nat} (h : GH lv N (D + 1) y G P K X V O) (hl : lv = lw + if O (D + 1) ≠ 0 then 1 else 0) (hV : ∀ j, j ≤ lw → V j ≤ V2 j) : GH lw N D y G (iup P D (G (D + 1) : Int)) K X V2 O := by
  obtain ⟨h1, h2, h3, h4⟩ := h
  have e1 : levc O D = lw := by
    have q : levc O D + (if O (D + 1) ≠ 0 then 1 else 0) = lv := h1
    omega
  have lm : ∀ i, i ≤ D → levc O i ≤ lw := fun i hi => by rw [← e1]; exact levc_m i D hi
  refine ⟨e1, h2, h3, fun i hi => ⟨fun t ht => ?_, fun hi2 => ?_⟩⟩
  · by_cases e : i = D
    · subst e
      rw [iup_eq] at ht
      have q := (h4 i (by omega)).2 (by omega)
      have e2 : t = G (i + 1) := by omega
      rw [e2]
      exact ⟨q.1, q.2.1, Int.le_trans q.2.2.2 (hV _ (lm i hi))⟩
    · rw [iup_ne e] at ht
      have := (h4 i (by omega)).1 t ht
      exact ⟨this.1, this.2.1, Int.le_trans this.2.2 (hV _ (lm i hi))⟩
  · have := (h4 i (by omega)).2 (by omega)
    exact ⟨this.1, this.2.1, this.2.2.1, Int.le_trans this.2.2.2 (hV _ (lm i hi))⟩
/-- a row ends and another one begins -/
theorem GH_row (h : GH lv N D y G P K X V O) (hK : ∀ m, m < N → K2 m = K m) (hX : ∀ m, m < N → K m ≠ 18 → X2 m = X m) (hc : K2 N = 18) (hV : ∀ j, j ≤ lv → V j ≤ V2 j) : GH lv (N + 1) D y G (iup P D (-1)) K2 X2 V2 O := by
  obtain ⟨h1, h2, h3, h4⟩ := h
  have lm : ∀ i, i ≤ D → levc O i ≤ lv := fun i hi => by rw [← h1]; exact levc_m i D hi
  have k18 : ∀ m, m < N + 1 → K2 m ≠ 18 → m < N := fun m hm hk => by
    by_cases e : m = N
    · subst e
      exact absurd hc hk
    · omega
  refine ⟨h1, fun m hm hk h0 => ?_, fun m t hm hk hx => ?_, fun i hi => ⟨fun t ht => ?_, fun hi2 => ?_⟩⟩
  · have e := k18 m hm hk
    rw [hK m e] at hk ⊢
    exact h2 m e hk h0
  · have e := k18 m hm hk
    rw [hK m e] at hk ⊢
    rw [hX m e hk] at hx
    have := h3 m t e hk hx
    omega
  · by_cases e : i = D
    · subst e
      rw [iup_eq] at ht
      omega
    · rw [iup_ne e] at ht
      have := (h4 i hi).1 t ht
      rw [hK t this.1]
      exact ⟨by omega, this.2.1, Int.le_trans this.2.2 (hV _ (lm i hi))⟩
  · have := (h4 i hi).2 hi2
    rw [hK _ this.1]
    exact ⟨by omega, this.2.1, this.2.2.1, Int.le_trans this.2.2.2 (hV _ (lm i hi))⟩
/-- only the spot moves on -/
theorem GH_pos (h : GH lv N D y G P K X V O) (hV : ∀ j, j ≤ lv → V j ≤ V2 j) : GH lv N D y G P K X V2 O := by
  obtain ⟨h1, h2, h3, h4⟩ := h
  have lm : ∀ i, i ≤ D → levc O i ≤ lv := fun i hi => by rw [← h1]; exact levc_m i D hi
  exact ⟨h1, h2, h3, fun i hi => ⟨fun t ht => ⟨((h4 i hi).1 t ht).1, ((h4 i hi).1 t ht).2.1, Int.le_trans ((h4 i hi).1 t ht).2.2 (hV _ (lm i hi))⟩, fun z => ⟨((h4 i hi).2 z).1, ((h4 i hi).2 z).2.1, ((h4 i hi).2 z).2.2.1, Int.le_trans ((h4 i hi).2 z).2.2.2 (hV _ (lm i hi))⟩⟩⟩
end RGHO
