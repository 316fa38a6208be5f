/-! THE READER: what stands beside the tables: texts -/
section RTEXT
variable {Q k w i lv : Nat} {S T S2 T2 : ev_St} {ws : Nat → Nat}
def DRx (S T : ev_St) : Prop := (0 ≤ S.1 1 1 ∧ S.1 1 1 ≤ 120) ∧ T.1 621 1 = S.1 1 1 ∧ ∀ g : Nat, (g : Int) < S.1 1 1 → T.1 622 g = S.1 2 g ∧ sp_sign (S.1 2 g) = 1
def PRx (S T : ev_St) : Prop := ∀ l : Nat, l < 26 → (S.1 5 l = 0 ∧ T.1 623 l = -1) ∨ (S.1 5 l = 1 ∧ (0 ≤ S.1 (169 + 2 * l) 1 ∧ S.1 (169 + 2 * l) 1 ≤ 120) ∧ T.1 623 l = S.1 (169 + 2 * l) 1 ∧ ∀ g : Nat, (g : Int) < S.1 (169 + 2 * l) 1 → T.1 624 (120 * l + g) = S.1 (169 + 2 * l + 1) g ∧ sp_sign (S.1 (169 + 2 * l + 1) g) = 1)
/-- the text of a level: the draft, or a part's -/
def LVx (S T : ev_St) (i w : Nat) : Prop := (i = 0 ∧ T.1 644 0 = -1 ∧ w = 1) ∨ (1 ≤ i ∧ ∃ l : Nat, l < 26 ∧ T.1 644 i = (l : Int) ∧ w = 169 + 2 * l ∧ S.1 5 l = 1)
/-- texts that are read: lv is the level -/
def RIt (lv : Nat) (ws : Nat → Nat) (S T : ev_St) : Prop := DRx S T ∧ PRx S T ∧ (lv < 28 ∧ T.1 621 28 = (lv : Int) ∧ S.1 3 6 = (lv : Int)) ∧ (∀ i, i ≤ lv → LVx S T i (ws i) ∧ 0 ≤ T.1 645 i ∧ T.1 645 i ≤ S.1 (ws i) 1) ∧ (∀ i, i < lv → S.2.2.1 15 i = ws i + 1 ∧ S.1 16 i = T.1 645 i) ∧ (S.2.2.1 3 7 = ws lv + 1 ∧ S.1 3 8 = T.1 645 lv) ∧ ((S.1 3 12 = -1 ∧ T.1 621 26 = -1) ∨ (S.1 3 12 = T.1 621 26 + 97 ∧ 0 ≤ T.1 621 26 ∧ T.1 621 26 < 26))
theorem obT : ∀ l : Nat, l < 26 → ev_isOb (169 + 2 * l) 10 = true := by
  have q : ∀ l : Fin 26, ev_isOb (169 + 2 * l.val) 10 = true := by decide +kernel
  exact fun l hl => q ⟨l, hl⟩
theorem LV_tx (hD : DRx S T) (hP : PRx S T) (h : LVx S T i w) : isTx w ∧ ev_isOb w 10 = true ∧ (0 ≤ S.1 w 1 ∧ S.1 w 1 ≤ 120) ∧ ∀ p : Int, sp_at S w p = -1 ∨ sp_sign (sp_at S w p) = 1 := by
  rcases h with ⟨_, _, rfl⟩ | ⟨_, l, h1, _, rfl, h2⟩
  · refine ⟨Or.inl rfl, by decide +kernel, hD.1, fun p => ?_⟩
    unfold sp_at
    by_cases e : 0 ≤ p ∧ p < S.1 1 1
    · rw [if_pos e]
      exact Or.inr (hD.2.2 p.toNat (by omega)).2
    · rw [if_neg e]
      exact Or.inl rfl
  · rcases hP l h1 with ⟨z, _⟩ | ⟨_, z1, z2, z3⟩
    · omega
    · refine ⟨Or.inr (by omega), obT l h1, z1, fun p => ?_⟩
      unfold sp_at
      by_cases e : 0 ≤ p ∧ p < S.1 (169 + 2 * l) 1
      · rw [if_pos e]
        exact Or.inr (z3 p.toNat (by omega)).2
      · rw [if_neg e]
        exact Or.inl rfl
theorem RT_ofL (h : RIt lv ws S T) : RT S (ws lv) T ∧ isTx (ws lv) ∧ rpos T = S.1 3 8 ∧ 0 ≤ rpos T ∧ rpos T ≤ S.1 (ws lv) 1 ∧ S.2.2.1 3 7 = ws lv + 1 := by
  obtain ⟨hD, hP, ⟨v1, v2, v3⟩, hl, _, ⟨h5, h6⟩, _⟩ := h
  obtain ⟨L, p1, p2⟩ := hl lv (Nat.le_refl _)
  obtain ⟨t1, t2, t3, t4⟩ := LV_tx hD hP L
  have e : (T.1 621 28).toNat = lv := by omega
  have r : rpos T = T.1 645 lv := by
    unfold rpos
    rw [e]
  refine ⟨⟨t2, t3, by omega, ?_, fun z => ?_, fun z => ?_, fun p hp => ⟨?_, t4 p⟩⟩, t1, by omega, by omega, by omega, h5⟩
  · rw [e]
    rcases L with ⟨a, b, c⟩ | ⟨a, l, b, c, d⟩
    · subst a
      omega
    · omega
  · rw [e] at z
    rcases L with ⟨a, b, c⟩ | ⟨a, l, b, c, d⟩
    · rw [c, hD.2.1]
    · omega
  · rw [e] at z ⊢
    rcases L with ⟨a, b, c⟩ | ⟨a, l, b, c, d, f⟩
    · subst a
      exact absurd b z
    · rw [c, d, Int.toNat_natCast]
      rcases hP l b with ⟨y, _⟩ | ⟨_, y1, y2, y3⟩
      · omega
      · exact y2
  · unfold rt_at sp_at
    rw [e]
    rcases L with ⟨a, b, c⟩ | ⟨a, l, b, c, d, f⟩
    · subst a
      rw [c, if_neg (fun z => z b), hD.2.1]
      by_cases g : p < S.1 1 1
      · rw [if_pos g, if_pos ⟨hp, g⟩]
        exact (hD.2.2 p.toNat (by omega)).1
      · rw [if_neg g, if_neg (by omega)]
    · rw [c, d, if_pos (by omega), Int.toNat_natCast]
      rcases hP l b with ⟨y, _⟩ | ⟨_, y1, y2, y3⟩
      · omega
      · rw [y2]
        by_cases g : p < S.1 (169 + 2 * l) 1
        · rw [if_pos g, if_pos ⟨hp, g⟩, show (120 * (l : Int) + p).toNat = 120 * l + p.toNat from by omega]
          exact (y3 p.toNat (by omega)).1
        · rw [if_neg g, if_neg (by omega)]
/-- the cells of the class that the texts are told by -/
def KTs (x g : Nat) : Prop := (x = 1 ∧ g = 1) ∨ x = 2 ∨ x = 5 ∨ x = 16 ∨ (169 ≤ x ∧ x < 221) ∨ (x = 3 ∧ (g = 6 ∨ g = 12))
def KTt (x g : Nat) : Prop := (x = 621 ∧ (g = 1 ∨ g = 26 ∨ g = 28)) ∨ (622 ≤ x ∧ x ≤ 624) ∨ x = 644
/-- only the spot is changed -/
theorem RIt_pos (h : RIt lv ws S T) (s1 : ∀ x g, KTs x g → S2.1 x g = S.1 x g) (s2 : ∀ x g, (x = 15 ∨ (x = 3 ∧ g = 7)) → S2.2.2.1 x g = S.2.2.1 x g) (t1 : ∀ x g, KTt x g → T2.1 x g = T.1 x g) (t2 : ∀ i, i ≠ lv → T2.1 645 i = T.1 645 i) (hp : S2.1 3 8 = T2.1 645 lv ∧ 0 ≤ T2.1 645 lv ∧ T2.1 645 lv ≤ S.1 (ws lv) 1) : RIt lv ws S2 T2 := by
  have hL := fun i hi => (LV_tx h.1 h.2.1 (h.2.2.2.1 i hi).1).1
  obtain ⟨hD, hP, ⟨v1, v2, v3⟩, hl, h4, ⟨h5, h6⟩, h7⟩ := h
  have sx : ∀ x g, 169 ≤ x → x < 221 → S2.1 x g = S.1 x g := fun x g h1 h2 => s1 x g (Or.inr (Or.inr (Or.inr (Or.inr (Or.inl ⟨h1, h2⟩)))))
  have tx : ∀ x g, 622 ≤ x → x ≤ 624 → T2.1 x g = T.1 x g := fun x g h1 h2 => t1 x g (Or.inr (Or.inl ⟨h1, h2⟩))
  have s5 : ∀ g, S2.1 5 g = S.1 5 g := fun g => s1 _ _ (Or.inr (Or.inr (Or.inl rfl)))
  have t44 : ∀ g, T2.1 644 g = T.1 644 g := fun g => t1 _ _ (Or.inr (Or.inr rfl))
  have c1 : S2.1 1 1 = S.1 1 1 := s1 _ _ (Or.inl ⟨rfl, rfl⟩)
  have cw : ∀ i, i ≤ lv → S2.1 (ws i) 1 = S.1 (ws i) 1 := fun i hi => by
    have := hL i hi
    unfold isTx at this
    rcases this with z | z
    · rw [z, c1]
    · exact sx _ _ z.1 z.2
  refine ⟨⟨?_, ?_, fun g hg => ?_⟩, fun l hl' => ?_, ⟨v1, ?_, ?_⟩, fun i hi => ⟨?_, ?_⟩, fun i hi => ⟨?_, ?_⟩, ⟨?_, ?_⟩, ?_⟩
  · rw [c1]
    exact hD.1
  · rw [c1, t1 621 1 (Or.inl ⟨rfl, Or.inl rfl⟩)]
    exact hD.2.1
  · rw [tx _ _ (by omega) (by omega), s1 2 g (Or.inr (Or.inl rfl))]
    rw [c1] at hg
    exact hD.2.2 g hg
  · rw [s5, tx _ _ (by omega) (by omega), sx _ _ (by omega) (by omega)]
    rcases hP l hl' with z | ⟨z1, z2, z3, z4⟩
    · exact Or.inl z
    · refine Or.inr ⟨z1, z2, z3, fun g hg => ?_⟩
      rw [tx _ _ (by omega) (by omega), sx _ _ (by omega) (by omega)]
      exact z4 g hg
  · rw [t1 621 28 (Or.inl ⟨rfl, Or.inr (Or.inr rfl)⟩)]
    exact v2
  · rw [s1 3 6 (Or.inr (Or.inr (Or.inr (Or.inr (Or.inr ⟨rfl, Or.inl rfl⟩)))))]
    exact v3
  · rcases (hl i hi).1 with ⟨a, b, c⟩ | ⟨a, l, b, c, d, e⟩
    · exact Or.inl ⟨a, by rw [t44, b], c⟩
    · exact Or.inr ⟨a, l, b, by rw [t44, c], d, by rw [s5, e]⟩
  · rw [cw i hi]
    by_cases e : i = lv
    · subst e
      exact hp.2
    · rw [t2 i e]
      exact (hl i hi).2
  · rw [s2 _ _ (Or.inl rfl)]
    exact (h4 i hi).1
  · rw [s1 16 i (Or.inr (Or.inr (Or.inr (Or.inl rfl)))), t2 i (by omega)]
    exact (h4 i hi).2
  · rw [s2 _ _ (Or.inr ⟨rfl, rfl⟩)]
    exact h5
  · exact hp.1
  · rw [s1 3 12 (Or.inr (Or.inr (Or.inr (Or.inr (Or.inr ⟨rfl, Or.inr rfl⟩))))), t1 621 26 (Or.inl ⟨rfl, Or.inr (Or.inl rfl)⟩)]
    exact h7
end RTEXT
