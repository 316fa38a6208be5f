/-! THE READER: what is included is kept -/
section RLET2
variable {Q k n m w d N M D lv t : Nat} {φ ψ own inn G R ws y rk : Nat → Nat} {P q : Nat → Int} {S T S0 T0 S1 S' S2 T' T2 T1 T3 U : ev_St} {Z Z2 : Nat → Prop}
/-- cells of the texts themselves -/
def KT0 (x g : Nat) : Prop := (x = 1 ∧ g = 1) ∨ x = 2 ∨ x = 5 ∨ (169 ≤ x ∧ x < 221) ∨ (x = 3 ∧ g = 12)
def isTy (w : Nat) : Prop := w = 1 ∨ (169 ≤ w ∧ w < 220)
theorem LV_ty {i : Nat} (h : LVx S T i w) : isTy w := by
  rcases h with ⟨_, _, z⟩ | ⟨_, l, h1, _, z, _⟩
  · exact Or.inl z
  · exact Or.inr (by omega)
theorem sp_atT (hf : ∀ x g, KT0 x g → S'.1 x g = S.1 x g) (hw : isTy w) : sp_at S' w = sp_at S w ∧ S'.1 w 1 = S.1 w 1 := by
  have e1 : S'.1 w 1 = S.1 w 1 := by
    rcases hw with z | z
    · rw [z]
      exact hf _ _ (Or.inl ⟨rfl, rfl⟩)
    · exact hf _ _ (Or.inr (Or.inr (Or.inr (Or.inl (by omega)))))
  refine ⟨funext fun p => ?_, e1⟩
  unfold sp_at
  rw [e1]
  have e2 : S'.1 (w + 1) p.toNat = S.1 (w + 1) p.toNat := by
    rcases hw with z | z
    · rw [z]
      exact hf _ _ (Or.inr (Or.inl rfl))
    · exact hf (w + 1) p.toNat (Or.inr (Or.inr (Or.inr (Or.inl ⟨by omega, by omega⟩))))
  rw [e2]
theorem isTx_l {l : Nat} (h : l < 26) : isTy (169 + 2 * l) := Or.inr (by omega)
theorem ZC_c {l : Nat} (hf : ∀ x g, KT0 x g → S'.1 x g = S.1 x g) (hl : l < 26) (hZ : ∀ x, Z x → Z2 x) (h : ZC Z S l) : ZC Z2 S' l := by
  obtain ⟨a, b⟩ := sp_atT hf (isTx_l hl)
  intro m hm l' hl' hi
  rw [a, b] at hm
  rw [a] at hi
  exact hZ _ (h m hm l' hl' hi)
theorem RKP_c (hf : ∀ x g, KT0 x g → S'.1 x g = S.1 x g) (h : RKP rk S) : RKP rk S' := by
  intro l hl h5 m hm l' hl' hi
  obtain ⟨a, b⟩ := sp_atT hf (isTx_l hl)
  rw [hf 5 l (Or.inr (Or.inr (Or.inl rfl)))] at h5
  rw [a, b] at hm
  rw [a] at hi
  exact h l hl h5 m hm l' hl' hi
theorem INC_tok (ht : RIt lv ws S T) (h : INC lv ws Z rk S T) (hf : ∀ x g, KT0 x g → S'.1 x g = S.1 x g) (hp : T'.1 645 lv = nx (sp_at S (ws lv)) (T.1 645 lv)) (hp2 : ∀ i, i ≠ lv → T'.1 645 i = T.1 645 i) (h26 : T'.1 621 26 = T.1 621 26) (h44 : ∀ i, T'.1 644 i = T.1 644 i) (hn : ∀ l, l < 26 → ¬ icl (sp_at S (ws lv)) (T.1 645 lv) l) : INC lv ws Z rk S' T' := by
  obtain ⟨h1, h2, h3⟩ := h
  have tx : ∀ i, i ≤ lv → isTy (ws i) := fun i hi => LV_ty (ht.2.2.2.1 i hi).1
  refine ⟨fun i hi => ?_, fun l hl => ?_, fun i a b => by rw [h44, h44]; exact h3 i a b⟩
  · obtain ⟨a, _⟩ := sp_atT hf (tx i hi)
    obtain ⟨n, n1, n2⟩ := h1 i hi
    rw [a]
    by_cases e : i = lv
    · subst e
      refine ⟨n + 1, by rw [hp]; show nx _ (nxi _ n) = _; rw [n1], fun m hm l hl hi2 => ?_⟩
      by_cases e2 : m = n
      · rw [e2, n1] at hi2
        exact absurd hi2 (hn l hl)
      · exact n2 m (by omega) l hl hi2
    · rw [hp2 i e]
      exact ⟨n, n1, n2⟩
  · obtain ⟨a, b, c, d⟩ := h2 l hl
    refine ⟨a, by rw [hf 5 l (Or.inr (Or.inr (Or.inl rfl)))]; exact b, by rw [h26]; exact c, ?_⟩
    rcases d with ⟨i, i1, i2, i3⟩ | d
    · exact Or.inl ⟨i, i1, i2, by rw [h44]; exact i3⟩
    · exact Or.inr (ZC_c hf a (fun _ z => z) d)
theorem INC_inc {l : Nat} (ht : RIt lv ws S T) (h : INC lv ws Z rk S T) (hf : ∀ x g, KT0 x g → S'.1 x g = S.1 x g) (hp : T'.1 645 lv = nx (sp_at S (ws lv)) (T.1 645 lv)) (hp1 : T'.1 645 (lv + 1) = 0) (hp2 : ∀ i, i ≠ lv → i ≠ lv + 1 → T'.1 645 i = T.1 645 i) (h26 : T'.1 621 26 = T.1 621 26) (h44 : ∀ i, i ≠ lv + 1 → T'.1 644 i = T.1 644 i) (h44' : T'.1 644 (lv + 1) = (l : Int)) (hl : l < 26) (h5 : S.1 5 l = 1) (hown : (l : Int) ≠ T.1 621 26) (hi : icl (sp_at S (ws lv)) (T.1 645 lv) l) (hm : 1 ≤ lv → rk l < rk (T.1 644 lv).toNat) : INC (lv + 1) (nup ws (lv + 1) (169 + 2 * l)) (fun x => Z x ∨ x = l) rk S' T' := by
  obtain ⟨h1, h2, h3⟩ := h
  have tx : ∀ i, i ≤ lv → isTy (ws i) := fun i hi => LV_ty (ht.2.2.2.1 i hi).1
  refine ⟨fun i hi' => ?_, fun x hx => ?_, fun i a b => ?_⟩
  · by_cases e0 : i = lv + 1
    · subst e0
      exact ⟨0, by rw [hp1]; rfl, fun m hm => absurd hm (Nat.not_lt_zero m)⟩
    · rw [nup_ne e0]
      have hil : i ≤ lv := by omega
      obtain ⟨a, _⟩ := sp_atT hf (tx i hil)
      obtain ⟨n, n1, n2⟩ := h1 i hil
      rw [a]
      by_cases e : i = lv
      · subst e
        refine ⟨n + 1, by rw [hp]; show nx _ (nxi _ n) = _; rw [n1], fun m hm' l' hl' hi2 => ?_⟩
        by_cases e2 : m = n
        · rw [e2, n1] at hi2
          refine Or.inr ?_
          have a1 := hi.2.2.2
          have a2 := hi2.2.2.2
          omega
        · exact Or.inl (n2 m (by omega) l' hl' hi2)
      · rw [hp2 i e e0]
        exact ⟨n, n1, fun m hm' l' hl' hi2 => Or.inl (n2 m hm' l' hl' hi2)⟩
  · rcases hx with z | z
    · obtain ⟨a, b, c, d⟩ := h2 x z
      refine ⟨a, by rw [hf 5 x (Or.inr (Or.inr (Or.inl rfl)))]; exact b, by rw [h26]; exact c, ?_⟩
      rcases d with ⟨i, i1, i2, i3⟩ | d
      · exact Or.inl ⟨i, i1, by omega, by rw [h44 i (by omega)]; exact i3⟩
      · exact Or.inr (ZC_c hf a (fun _ z => Or.inl z) d)
    · subst z
      exact ⟨hl, by rw [hf 5 _ (Or.inr (Or.inr (Or.inl rfl)))]; exact h5, by rw [h26]; exact hown, Or.inl ⟨lv + 1, by omega, Nat.le_refl _, h44'⟩⟩
  · by_cases e : i = lv
    · rw [e, h44', h44 lv (by omega), Int.toNat_natCast]
      exact hm (by omega)
    · rw [h44 (i + 1) (by omega), h44 i (by omega)]
      exact h3 i a (by omega)
theorem INC_end (ht : RIt (lv + 1) ws S T) (h : INC (lv + 1) ws Z rk S T) (hf : ∀ x g, KT0 x g → S'.1 x g = S.1 x g) (hp : ∀ i, T'.1 645 i = T.1 645 i) (h26 : T'.1 621 26 = T.1 621 26) (h44 : ∀ i, T'.1 644 i = T.1 644 i) (ho : S.1 (ws (lv + 1)) 1 ≤ T.1 645 (lv + 1)) : INC lv ws Z rk S' T' := by
  obtain ⟨h1, h2, h3⟩ := h
  have tx : ∀ i, i ≤ lv + 1 → isTy (ws i) := fun i hi => LV_ty (ht.2.2.2.1 i hi).1
  refine ⟨fun i hi => ?_, fun l hl => ?_, fun i a b => by rw [h44, h44]; exact h3 i a (by omega)⟩
  · obtain ⟨a, _⟩ := sp_atT hf (tx i (by omega))
    rw [a, hp]
    exact h1 i (by omega)
  · obtain ⟨a, b, c, d⟩ := h2 l hl
    refine ⟨a, by rw [hf 5 l (Or.inr (Or.inr (Or.inl rfl)))]; exact b, by rw [h26]; exact c, ?_⟩
    rcases d with ⟨i, i1, i2, i3⟩ | d
    · by_cases e : i = lv + 1
      · refine Or.inr ?_
        subst e
        have ew : ws (lv + 1) = 169 + 2 * l := by
          rcases (ht.2.2.2.1 (lv + 1) (Nat.le_refl _)).1 with ⟨z, _⟩ | ⟨_, l0, a1, a2, a3, a4⟩
          · omega
          · rw [a3]
            omega
        obtain ⟨n, n1, n2⟩ := h1 (lv + 1) (Nat.le_refl _)
        rw [ew] at n1 n2 ho
        refine ZC_c hf a (fun _ z => z) (fun m hm l' hl' hi => n2 m ?_ l' hl' hi)
        by_cases z : m < n
        · exact z
        · have := @nxi_mono (sp_at S (169 + 2 * l)) n m (by omega)
          omega
      · exact Or.inl ⟨i, i1, by omega, by rw [h44]; exact i3⟩
    · exact Or.inr (ZC_c hf a (fun _ z => z) d)
end RLET2
