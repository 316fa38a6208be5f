/-! RUNAWAY: the climb is what runs away -/
section OPXY
variable {Q k p N M m n g : Nat} {φ ψ own up : Nat → Nat} {S S0 T T0 U V : ev_St} {W : Nat → FV} {X : Nat → Int} {Mb : Nat → Prop} {a : Int}
abbrev barN (p : Nat) (T0 : ev_St) (u : Nat) : Prop := T0.1 625 (320 * p + u) = 11 ∨ T0.1 625 (320 * p + u) = 12 ∨ T0.1 625 (320 * p + u) = 10 ∨ T0.1 630 (320 * p + u) = 2
abbrev infN (p : Nat) (T0 : ev_St) (u : Nat) : Prop := (T0.1 630 (320 * p + u) = 0 ∨ T0.1 630 (320 * p + u) = 1) ∧ T0.1 632 (320 * p + u) = -1
abbrev othN (p : Nat) (T0 : ev_St) (u s : Nat) : Prop := ∀ t, t ∈ lsN p T0 u → t ≠ s → T0.1 641 (320 * p + t) = 0
def nbF (up : Nat → Nat) (p : Nat) (T0 : ev_St) : Nat → Nat → Prop
  | 0, _ => True
  | n + 1, u => u = 0 ∨ (¬ barN p T0 (up u) ∧ nbF up p T0 n (up u))
def RUNf (up : Nat → Nat) (p : Nat) (T0 : ev_St) : Nat → Prop → Nat → Prop
  | 0, _, _ => False
  | n + 1, al, s => (al ∧ s ≠ 0) ∧ ((T0.1 625 (320 * p + up s) = 18 ∧ RUNf up p T0 n (othN p T0 (up s) s) (up s)) ∨ (T0.1 625 (320 * p + up s) ≠ 18 ∧ ((¬ barN p T0 (up s) ∧ infN p T0 (up s) ∧ nbF up p T0 320 (up s)) ∨ RUNf up p T0 n (¬ barN p T0 (up s) ∧ rpc p T0 (up s)) (up s))))
theorem nb_f (hu : ∀ t, t < N → t ≠ 0 → up t < t) : ∀ n n' u, u ≤ n → u ≤ n' → u < N → nbF up p T0 n u → nbF up p T0 n' u := fun n => by
  induction n with
  | zero =>
    intro n' u h1 h2 h3 h
    obtain rfl : u = 0 := by omega
    cases n' with
    | zero => trivial
    | succ n' => exact Or.inl rfl
  | succ n ih =>
    intro n' u h1 h2 h3 h
    cases n' with
    | zero => trivial
    | succ n' =>
      rcases h with h | ⟨h4, h5⟩
      · exact Or.inl h
      · by_cases e : u = 0
        · exact Or.inl e
        · have := hu u h3 e
          exact Or.inr ⟨h4, ih n' (up u) (by omega) (by omega) (by omega) h5⟩
theorem RU_f (hu : ∀ t, t < N → t ≠ 0 → up t < t) : ∀ n n' al s, s < n' → s < N → RUNf up p T0 n al s → RUNf up p T0 n' al s := fun n => by
  induction n with
  | zero => intro n' al s h1 h2 h; exact h.elim
  | succ n ih =>
    intro n' al s h1 h2 h
    obtain ⟨n', rfl⟩ : ∃ r, n' = r + 1 := ⟨n' - 1, by omega⟩
    obtain ⟨⟨h3, h4⟩, h5⟩ := h
    have := hu s h2 h4
    refine ⟨⟨h3, h4⟩, ?_⟩
    rcases h5 with ⟨y1, y2⟩ | ⟨y1, y2 | y2⟩
    · exact Or.inl ⟨y1, ih n' _ _ (by omega) (by omega) y2⟩
    · exact Or.inr ⟨y1, Or.inl y2⟩
    · exact Or.inr ⟨y1, Or.inr (ih n' _ _ (by omega) (by omega) y2)⟩
abbrev stN (φ : Nat → Nat) (p : Nat) (T0 : ev_St) (W : Nat → FV) (a : Int) (m : Nat) : Prop := infN p T0 m ∧ (W (φ m)).2.2.2.1 a ∧ rpc p T0 m
theorem RUN_eq (hF : FINX k N M φ ψ own up S0 (sft p T0)) (hw : WQ k N M φ ψ S0 (sft p T0) W M) (hq : ∀ m, m < N → FQ (320 * p) T0 m) : (∃ m, m < N ∧ stN φ p T0 W a m ∧ RUNf up p T0 320 True m) ↔ (W (ψ 0)).2.2.2.2.2 a := by
  have h := TREE_of hF
  have hN : N ≤ 320 := hF.2.1.2.2.2
  have hN0 : 0 < N := hF.1.1.2.2.1
  have hu : ∀ t, t < N → t ≠ 0 → up t < t := fun t h1 h2 => UP_lt hF h1 h2 rfl
  have hupN : ∀ t, t < N → t ≠ 0 → up t < N := fun t h1 h2 => by have := hu t h1 h2; omega
  have eK : ∀ m, tK (sft p T0) m = T0.1 625 (320 * p + m) := fun m => sft_1 (by omega) (by omega)
  have eC : ∀ m, tC (sft p T0) m = T0.1 626 (320 * p + m) := fun m => sft_1 (by omega) (by omega)
  have eX : tX (sft p T0) = X0 p T0 := funext fun t => sft_1 (by omega) (by omega)
  have kidL : ∀ t, t < N → t ≠ 0 → t ∈ lsN p T0 (up t) := fun t h1 h2 => by
    have q := kid_in hF (hupN t h1 h2) t t (Nat.le_refl _) ⟨h1, h2, rfl, PAR hF t t (Nat.le_refl _) h1 h2 rfl⟩
    rw [eX, eC] at q
    exact q
  have Lkid : ∀ m, m < N → ∀ t, t ∈ lsN p T0 m → (t < N ∧ t ≠ 0 ∧ up t = m) ∧ (T0.1 625 (320 * p + t) = 18 ↔ T0.1 625 (320 * p + m) ≠ 18) := fun m hm t ht => by
    have q := lst_mb (Kid_X h (m := m)) 320 0 _ (Kid_C h hm) t (by rw [eX, eC]; exact ht)
    have q2 := q.2.2.2
    rw [eK, eK] at q2
    exact ⟨⟨q.1, q.2.1, q.2.2.1⟩, q2⟩
  have itm := fun m (hm : m < N) => ITM (a := a) hF hw hq hm
  have atm := fun m (hm : m < N) => ATM (a := a) hF hw hq hm
  have rowψ : ∀ t, t < N → t ≠ 0 → T0.1 625 (320 * p + t) = 18 → φ t = ψ t ∧ T0.1 630 (320 * p + t) = -1 := fun t h1 h2 h3 => ⟨(row_R hF h1 h2 h3).2, (row_R hF h1 h2 h3).1⟩
  -- a part whose child is alive, and that does not bar
  have kin3 : ∀ s, s < N → s ≠ 0 → T0.1 625 (320 * p + up s) ≠ 18 → ¬ barN p T0 (up s) → (T0.1 625 (320 * p + up s) = 8 ∨ T0.1 625 (320 * p + up s) = 9 ∨ T0.1 625 (320 * p + up s) = 13) := fun s h1 h2 h3 h4 => by
    have z8 : 8 ≤ T0.1 625 (320 * p + up s) ∧ T0.1 625 (320 * p + up s) ≤ 13 := Classical.byContradiction fun z => by
      have q := kidL s h1 h2
      unfold lsN at q
      rw [noC_n hF (hupN s h1 h2) h3 z, lst_0 rfl] at q
      cases q
    omega
  -- what runs away goes up
  have L0 : ∀ n u, u ≤ n → u < N → (W (ψ u)).2.2.2.2.2 a → nbF up p T0 320 u → (W (ψ 0)).2.2.2.2.2 a := fun n => by
    induction n with
    | zero =>
      intro u h1 h2 h3 _
      obtain rfl : u = 0 := by omega
      exact h3
    | succ n ih =>
      intro u h1 h2 h3 h4
      by_cases e : u = 0
      · subst e
        exact h3
      · have lt := hu u h2 e
        have mN := hupN u h2 e
        rcases h4 with h4 | ⟨h5, h6⟩
        · exact absurd h4 e
        · have h6 := nb_f hu 319 320 (up u) (by omega) (by omega) mN h6
          refine ih (up u) (by omega) mN ?_ h6
          refine (itm (up u) mN).2.2.mpr ⟨fun z => h5 (Or.inr (Or.inr (Or.inr z))), Or.inl ?_⟩
          have ku := kidL u h2 e
          by_cases z18 : T0.1 625 (320 * p + up u) = 18
          · exact ((atm (up u) mN).1 z18).2.mpr ⟨u, ku, h3⟩
          · have u18 := (Lkid (up u) mN u ku).2.mpr z18
            exact ((atm (up u) mN).2 z18).2.mpr ⟨kin3 u h2 e z18 h5, u, ku, by rw [(rowψ u h2 e u18).1]; exact h3⟩
  -- the climb is sound
  have L1 : ∀ n al s, s < N → (W (ψ s)).2.2.2.2.1 a → RUNf up p T0 n al s → (W (ψ 0)).2.2.2.2.2 a := fun n => by
    induction n with
    | zero => intro al s _ _ h; exact h.elim
    | succ n ih =>
      intro al s h1 h2 h3
      obtain ⟨⟨_, h5⟩, h6⟩ := h3
      have mN := hupN s h1 h5
      have ks := kidL s h1 h5
      rcases h6 with ⟨y1, y2⟩ | ⟨y1, y2⟩
      · have al2 : othN p T0 (up s) s := by
          cases n with
          | zero => exact y2.elim
          | succ n => exact y2.1.1
        have I := ((atm (up s) mN).1 y1).1.mpr ⟨s, ks, h2, al2⟩
        have u0 : up s ≠ 0 := fun z => by
          rw [z] at y1
          have k9 : T0.1 625 (320 * p + 0) = 9 := by
            rw [← eK]
            obtain ⟨_, y | y⟩ := FINX_K hF hN0
            · exact y.2.1
            · exact absurd rfl y.1
          omega
        refine ih _ (up s) mN ?_ y2
        rw [← (rowψ (up s) mN u0 y1).1]
        exact I
      · have s18 := (Lkid (up s) mN s ks).2.mpr y1
        have Is : (W (φ s)).2.2.2.2.1 a := by
          rw [(rowψ s h1 h5 s18).1]
          exact h2
        have I : ¬ barN p T0 (up s) → (W (φ (up s))).2.2.2.2.1 a := fun nb => ((atm (up s) mN).2 y1).1.mpr ⟨kin3 s h1 h5 y1 nb, s, ks, Is⟩
        rcases y2 with ⟨y3, y4, y5⟩ | y3
        · exact L0 (up s) (up s) (Nat.le_refl _) mN ((itm (up s) mN).2.2.mpr ⟨fun z => y3 (Or.inr (Or.inr (Or.inr z))), Or.inr ⟨⟨by omega, y4.2⟩, I y3⟩⟩) y5
        · have al2 : ¬ barN p T0 (up s) ∧ rpc p T0 (up s) := by
            cases n with
            | zero => exact y3.elim
            | succ n => exact y3.1.1
          exact ih _ (up s) mN ((itm (up s) mN).2.1.mpr ⟨fun z => al2.1 (Or.inr (Or.inr (Or.inr z))), al2.2, Or.inl (I al2.1)⟩) y3
  -- and complete
  have L2 : ∀ r s, s + r = N → s < N → (W (ψ s)).2.2.2.2.1 a → (∃ n, RUNf up p T0 n True s) → ∃ m, m < N ∧ stN φ p T0 W a m ∧ ∃ n, RUNf up p T0 n True m := fun r => by
    induction r using Nat.strongRecOn with
    | _ r ih =>
      intro s h1 h2 h3 ⟨n, h4⟩
      obtain ⟨i1, i2, i3⟩ := (itm s h2).2.1.mp h3
      rcases i3 with i3 | ⟨⟨i4, i5⟩, i6⟩
      · by_cases z18 : T0.1 625 (320 * p + s) = 18
        · obtain ⟨t, t1, t2, t3⟩ := ((atm s h2).1 z18).1.mp i3
          obtain ⟨⟨t4, t5, t6⟩, _⟩ := Lkid s h2 t t1
          have lt := hu t t4 t5
          refine ih (N - t) (by omega) t (by omega) t4 t2 ⟨n + 1, ⟨trivial, t5⟩, Or.inl ⟨by rw [t6]; exact z18, ?_⟩⟩
          rw [t6]
          cases n with
          | zero => exact h4.elim
          | succ n => exact ⟨⟨t3, h4.1.2⟩, h4.2⟩
        · obtain ⟨k3, t, t1, t2⟩ := ((atm s h2).2 z18).1.mp i3
          obtain ⟨⟨t4, t5, t6⟩, t7⟩ := Lkid s h2 t t1
          have lt := hu t t4 t5
          have t18 := t7.mpr z18
          have nb : ¬ barN p T0 s := fun z => by
            rcases z with z | z | z | z
            · omega
            · omega
            · omega
            · exact i1 z
          refine ih (N - t) (by omega) t (by omega) t4 (by rw [← (rowψ t t4 t5 t18).1]; exact t2) ⟨n + 1, ⟨trivial, t5⟩, Or.inr ⟨by rw [t6]; exact z18, Or.inr ?_⟩⟩
          rw [t6]
          cases n with
          | zero => exact h4.elim
          | succ n => exact ⟨⟨⟨nb, i2⟩, h4.1.2⟩, h4.2⟩
      · refine ⟨s, h2, ⟨⟨?_, i5⟩, i6, i2⟩, n, h4⟩
        have kk := h.2.2.2.2.2.2.2.2 s h2
        rw [← show tR (sft p T0) s = T0.1 630 (320 * p + s) from sft_1 (by omega) (by omega)] at i1 i4 ⊢
        rcases kk with ⟨z, _⟩ | ⟨⟨z, _⟩, _⟩ | ⟨⟨z, _⟩, _⟩
        · exact absurd z i4
        · exact z
        · exact absurd z i1
  have L3 : ∀ r u, u + r = N → u < N → (W (ψ u)).2.2.2.2.2 a → nbF up p T0 320 u → ∃ w, w < N ∧ (infN p T0 w ∧ T0.1 630 (320 * p + w) ≠ 2) ∧ (W (φ w)).2.2.2.2.1 a ∧ nbF up p T0 320 w := fun r => by
    induction r using Nat.strongRecOn with
    | _ r ih =>
      intro u h1 h2 h3 h4
      obtain ⟨i1, i2⟩ := (itm u h2).2.2.mp h3
      rcases i2 with i2 | ⟨⟨i3, i4⟩, i5⟩
      · have go : ∀ t, t ∈ lsN p T0 u → (W (ψ t)).2.2.2.2.2 a → ¬ barN p T0 u → ∃ w, w < N ∧ (infN p T0 w ∧ T0.1 630 (320 * p + w) ≠ 2) ∧ (W (φ w)).2.2.2.2.1 a ∧ nbF up p T0 320 w := fun t t1 t2 nb => by
          obtain ⟨⟨t4, t5, t6⟩, _⟩ := Lkid u h2 t t1
          have lt := hu t t4 t5
          exact ih (N - t) (by omega) t (by omega) t4 t2 (Or.inr ⟨by rw [t6]; exact nb, by rw [t6]; exact nb_f hu 320 319 u (by omega) (by omega) h2 h4⟩)
        by_cases z18 : T0.1 625 (320 * p + u) = 18
        · obtain ⟨t, t1, t2⟩ := ((atm u h2).1 z18).2.mp i2
          exact go t t1 t2 (fun z => by omega)
        · obtain ⟨k3, t, t1, t2⟩ := ((atm u h2).2 z18).2.mp i2
          obtain ⟨⟨t4, t5, t6⟩, t7⟩ := Lkid u h2 t t1
          exact go t t1 (by rw [← (rowψ t t4 t5 (t7.mpr z18)).1]; exact t2) (fun z => by omega)
      · refine ⟨u, h2, ⟨⟨?_, i4⟩, i1⟩, i5, h4⟩
        have kk := h.2.2.2.2.2.2.2.2 u h2
        rw [← show tR (sft p T0) u = T0.1 630 (320 * p + u) from sft_1 (by omega) (by omega)] at i1 i3 ⊢
        rcases kk with ⟨z, _⟩ | ⟨⟨z, _⟩, _⟩ | ⟨⟨z, _⟩, _⟩
        · exact absurd z i3
        · exact z
        · exact absurd z i1
  constructor
  · rintro ⟨m, hm, ⟨s1, s2, s3⟩, hr⟩
    refine L1 320 True m hm ((itm m hm).2.1.mpr ⟨by omega, s3, Or.inr ⟨⟨by omega, s1.2⟩, s2⟩⟩) hr
  · intro hA
    obtain ⟨w, w1, ⟨w2, w3⟩, w4, w5⟩ := L3 N 0 (by omega) hN0 hA (Or.inl rfl)
    by_cases z18 : T0.1 625 (320 * p + w) = 18
    · exfalso
      have w0 : w ≠ 0 := fun z => by
        rw [z] at z18
        have k9 : T0.1 625 (320 * p + 0) = 9 := by
          rw [← eK]
          obtain ⟨_, y | y⟩ := FINX_K hF hN0
          · exact y.2.1
          · exact absurd rfl y.1
        omega
      have := (rowψ w w1 w0 z18).2
      omega
    · obtain ⟨k3, t, t1, t2⟩ := ((atm w w1).2 z18).1.mp w4
      obtain ⟨⟨t4, t5, t6⟩, t7⟩ := Lkid w w1 t t1
      have nb : ¬ barN p T0 w := fun z => by omega
      obtain ⟨m, m1, m2, n, m3⟩ := L2 (N - t) t (by omega) t4 (by rw [← (rowψ t t4 t5 (t7.mpr z18)).1]; exact t2) ⟨1, ⟨trivial, t5⟩, Or.inr ⟨by rw [t6]; exact z18, Or.inl (by rw [t6]; exact ⟨nb, w2, w5⟩)⟩⟩
      exact ⟨m, m1, m2, RU_f hu n 320 True m (by omega) m1 m3⟩
end OPXY
