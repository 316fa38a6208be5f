/-! RUNAWAY: the class's just one sign is the reference's mark -/
section OPXV
variable {Q k p N M m n g : Nat} {φ ψ own up : Nat → Nat} {S S0 T T0 U V : ev_St} {W : Nat → FV} {X : Nat → Int} {Mb : Nat → Prop} {Fv : Nat → Int} {a : Int}
noncomputable def bP (P : Prop) : Int := @ite Int P (Classical.propDecidable P) 1 0
theorem bP_1 {P : Prop} (h : P) : bP P = 1 := @if_pos P (Classical.propDecidable P) h Int 1 0
theorem bP_0 {P : Prop} (h : ¬ P) : bP P = 0 := @if_neg P (Classical.propDecidable P) h Int 1 0
theorem bP_t {P : Prop} : tv (bP P) P := by
  by_cases h : P
  · exact Or.inl ⟨bP_1 h, h⟩
  · exact Or.inr ⟨bP_0 h, h⟩
theorem bP_e {P R : Prop} (h : P ↔ R) : bP P = bP R := by rw [propext h]
theorem ior_t {x : Int} (h : x = 0 ∨ x = 1 ∨ x = 2 ∨ x = 3) : ev_ior x 0 = x ∧ ev_ior x 1 = (if x = 0 ∨ x = 1 then 1 else 3) ∧ ev_ior x 2 = (if x = 0 ∨ x = 2 then 2 else 3) ∧ ev_iand x 1 = (if x = 1 ∨ x = 3 then 1 else 0) := by
  rcases h with h | h | h | h <;> subst h <;> decide
/-- an item's repeat lets it be just one sign, of more than one round too -/
abbrev rpc (p : Nat) (T0 : ev_St) (m : Nat) : Prop := T0.1 630 (320 * p + m) = -1 ∨ (T0.1 632 (320 * p + m) ≠ 0 ∧ (T0.1 631 (320 * p + m) < 2 ∨ T0.1 640 (320 * p + m) = 0))
theorem JIv_p {mk : Int} {P : Prop} {t : Nat} (h : tv mk P) : tv (JIv p T0 mk t) (P ∧ rpc p T0 t) := by
  unfold JIv
  rcases h with ⟨h1, h2⟩ | ⟨h1, h2⟩
  · rw [if_neg (by omega)]
    by_cases y : T0.1 630 (320 * p + t) = -1
    · rw [if_pos y]
      exact Or.inl ⟨rfl, h2, Or.inl y⟩
    · rw [if_neg y]
      by_cases y2 : T0.1 632 (320 * p + t) = 0
      · rw [if_pos y2]
        exact Or.inr ⟨rfl, fun z => by have := z.2; omega⟩
      · rw [if_neg y2]
        by_cases y3 : T0.1 631 (320 * p + t) < 2
        · rw [if_pos y3]
          exact Or.inl ⟨rfl, h2, Or.inr ⟨y2, Or.inl y3⟩⟩
        · rw [if_neg y3]
          by_cases y4 : T0.1 640 (320 * p + t) ≠ 0
          · rw [if_pos y4]
            exact Or.inr ⟨rfl, fun z => by have := z.2; omega⟩
          · rw [if_neg y4]
            exact Or.inl ⟨rfl, h2, Or.inr ⟨y2, Or.inr (by omega)⟩⟩
  · rw [if_pos h1]
    exact Or.inr ⟨rfl, fun z => h2 z.1⟩
/-- an item with its repeat: just one sign, what is inner, what runs away -/
theorem ITM (hF : FINX k N M φ ψ own up S0 (sft p T0)) (hw : WQ k N M φ ψ S0 (sft p T0) W M) (hq : ∀ m, m < N → FQ (320 * p) T0 m) (hm : m < N) : ((W (ψ m)).2.2.2.1 a ↔ (W (φ m)).2.2.2.1 a ∧ rpc p T0 m) ∧ ((W (ψ m)).2.2.2.2.1 a ↔ T0.1 630 (320 * p + m) ≠ 2 ∧ rpc p T0 m ∧ ((W (φ m)).2.2.2.2.1 a ∨ ((T0.1 630 (320 * p + m) ≠ -1 ∧ T0.1 632 (320 * p + m) = -1) ∧ (W (φ m)).2.2.2.1 a))) ∧ ((W (ψ m)).2.2.2.2.2 a ↔ T0.1 630 (320 * p + m) ≠ 2 ∧ ((W (φ m)).2.2.2.2.2 a ∨ ((T0.1 630 (320 * p + m) ≠ -1 ∧ T0.1 632 (320 * p + m) = -1) ∧ (W (φ m)).2.2.2.2.1 a))) := by
  have h := TREE_of hF
  have lb := (LB_all hF hw hq N m hm (by omega)).1.1
  have eR : tR (sft p T0) m = T0.1 630 (320 * p + m) := sft_1 (by omega) (by omega)
  have eL : tL (sft p T0) m = T0.1 631 (320 * p + m) := sft_1 (by omega) (by omega)
  have eH : tH (sft p T0) m = T0.1 632 (320 * p + m) := sft_1 (by omega) (by omega)
  have key : ∀ w : FV, w = repF (tL (sft p T0) m) (tH (sft p T0) m) (W (φ m)) → T0.1 630 (320 * p + m) ≠ -1 → (w.2.2.2.1 a ↔ (W (φ m)).2.2.2.1 a ∧ rpc p T0 m) ∧ (w.2.2.2.2.1 a ↔ rpc p T0 m ∧ ((W (φ m)).2.2.2.2.1 a ∨ (T0.1 632 (320 * p + m) = -1 ∧ (W (φ m)).2.2.2.1 a))) ∧ (w.2.2.2.2.2 a ↔ (W (φ m)).2.2.2.2.2 a ∨ (T0.1 632 (320 * p + m) = -1 ∧ (W (φ m)).2.2.2.2.1 a)) := fun w hw hr => by
    rw [eL, eH] at hw
    rw [hw]
    have c : (T0.1 632 (320 * p + m) ≠ 0 ∧ (T0.1 631 (320 * p + m) ≤ 1 ∨ (W (φ m)).1 = 0)) ↔ rpc p T0 m := by
      rw [lb]
      omega
    refine ⟨?_, ?_, ?_⟩
    · show ((T0.1 632 (320 * p + m) ≠ 0 ∧ (T0.1 631 (320 * p + m) ≤ 1 ∨ (W (φ m)).1 = 0)) ∧ (W (φ m)).2.2.2.1 a) ↔ _
      rw [c]
      exact ⟨fun y => ⟨y.2, y.1⟩, fun y => ⟨y.2, y.1⟩⟩
    · show ((T0.1 632 (320 * p + m) ≠ 0 ∧ (T0.1 631 (320 * p + m) ≤ 1 ∨ (W (φ m)).1 = 0)) ∧ _) ↔ _
      rw [c]
    · exact Iff.rfl
  rcases h.2.2.2.2.2.2.2.2 m hm with ⟨z, e⟩ | ⟨⟨z, _⟩, _⟩ | ⟨⟨z, _⟩, _⟩
  · have z2 : T0.1 630 (320 * p + m) = -1 := eR.symm.trans z
    rw [e]
    refine ⟨⟨fun y => ⟨y, Or.inl z2⟩, fun y => y.1⟩, ⟨fun y => ⟨by omega, Or.inl z2, Or.inl y⟩, fun y => ?_⟩, ⟨fun y => ⟨by omega, Or.inl y⟩, fun y => ?_⟩⟩
    · exact y.2.2.resolve_right (fun w => w.1.1 z2)
    · exact y.2.resolve_right (fun w => w.1.1 z2)
  · have w := (hw.2 m hm).2.1 (h.1 m hm).2.1 z
    have z2 : T0.1 630 (320 * p + m) = 0 ∨ T0.1 630 (320 * p + m) = 1 := by
      rw [← eR]
      exact z
    obtain ⟨k1, k2, k3⟩ := key _ w (by omega)
    refine ⟨k1, ⟨fun y => ?_, fun y => ?_⟩, ⟨fun y => ?_, fun y => ?_⟩⟩
    · obtain ⟨y1, y2⟩ := k2.mp y
      exact ⟨by omega, y1, y2.imp id (fun v => ⟨⟨by omega, v.1⟩, v.2⟩)⟩
    · exact k2.mpr ⟨y.2.1, y.2.2.imp id (fun v => ⟨v.1.2, v.2⟩)⟩
    · exact ⟨by omega, (k3.mp y).imp id (fun v => ⟨⟨by omega, v.1⟩, v.2⟩)⟩
    · exact k3.mpr (y.2.imp id (fun v => ⟨v.1.2, v.2⟩))
  · have z2 : T0.1 630 (320 * p + m) = 2 := by
      rw [← eR]
      exact z
    obtain ⟨x, y, hx, hy⟩ := TREE_2 h hm z
    obtain ⟨p1, p2, p3, _⟩ := (TREE_r h hm).2 z x y hx hy
    obtain ⟨w1, w2, w3⟩ := (hw.2 m hm).2.2 z x y hx hy
    have pm := (h.1 m hm).2.1
    have w1 := w1 (by omega)
    obtain ⟨k1, k2, k3⟩ := key _ w1 (by omega)
    rw [w3 pm, w2 (by omega)]
    refine ⟨?_, ⟨fun y => ?_, fun y => absurd z2 y.1⟩, ⟨fun y => ?_, fun y => absurd z2 y.1⟩⟩
    · show (False ∨ ((19 : Int) < 20 ∧ (((W y).1 = 0 ∧ False) ∨ ((0 : Int) = 0 ∧ (W y).2.2.2.1 a)))) ↔ _
      rw [← k1]
      constructor
      · rintro (v | ⟨_, ⟨_, v⟩ | ⟨_, v⟩⟩)
        · exact v.elim
        · exact v.elim
        · exact v
      · exact fun v => Or.inr ⟨by decide, Or.inr ⟨rfl, v⟩⟩
    · exfalso
      have y' : False ∨ ((19 : Int) < 19 ∧ _) := y
      rcases y' with v | ⟨v, _⟩
      · exact v
      · omega
    · exfalso
      have y' : False ∨ ((19 : Int) < 19 ∧ _) := y
      rcases y' with v | ⟨v, _⟩
      · exact v
      · omega
end OPXV
