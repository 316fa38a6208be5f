/-! SEARCH: what goes on behind, as a list; both machines' chains against it -/
section OPZC
abbrev KT : Type := Nat × Nat × Nat × Nat
variable {Q k p N M m n n2 h h2 us us2 vs vs2 ls ls2 w len x0 x : Nat} {C : Int} {φ ψ own up lo : Nat → Nat} {S S2 T T2 U : ev_St} {V : Nat → Nat → Nat → List KT → Nat → Int} {ks : List KT}
/-- the class's code that goes on -/
def cOf (k p : Nat) (φ ψ : Nat → Nat) (U : ev_St) : List KT → Int
  | [] => 4 * (φ 0 : Int) + 1
  | κ :: _ => if κ.1 = 1 then 4 * (ψ κ.2.1 : Int) else if κ.1 = 3 then 4 * (bt k p ψ U κ.2.1 : Int) + 1 else if κ.1 = 9 then 4 * (ψ κ.2.1 : Int) + 1 else 4 * (φ κ.2.1 : Int) + 1
def dOf : List KT → Nat
  | [] => 0
  | κ :: ks => dOf ks + (if κ.1 = 4 then 1 else 0)
def lOf : List KT → Nat
  | [] => 0
  | κ :: ks => lOf ks + (if κ.1 = 5 ∨ κ.1 = 6 ∨ κ.1 = 7 ∨ κ.1 = 9 then 1 else 0)
def rkOf : List KT → Nat
  | [] => 0
  | κ :: ks => rkOf ks + (if κ.1 = 3 then 1 else 0)
def tagK (κ : KT) : Nat := if κ.1 = 3 then 0 else if κ.1 = 2 then 1 else if κ.1 = 4 then 2 else 3
/-- cells that levels further out may still take -/
def zsOf (k p N : Nat) (φ ψ own lo : Nat → Nat) (U : ev_St) : List KT → Nat
  | [] => 0
  | κ :: ks => zsOf k p N φ ψ own lo U ks + (if κ.1 = 3 then 1 + pcL p N φ lo U (pL lo N (bt k p ψ U κ.2.1)) else if κ.1 = 4 then pcL p N φ lo U (posC own lo N (cOf k p φ ψ U ks)) else 0)
/-- the end is not ahead of the start -/
def okp (x0 : Nat) : List KT → Nat → Prop
  | [], x => x0 ≤ x
  | κ :: ks, x => if κ.1 = 6 ∨ κ.1 = 7 then okp x0 ks κ.2.2.1 else (κ.1 = 2 → κ.2.2.1 ≤ x) ∧ okp x0 ks x
theorem okp_mono : ∀ (ks : List KT) (x y : Nat), x ≤ y → okp x0 ks x → okp x0 ks y := fun ks => by
  induction ks with
  | nil => exact fun x y h1 h2 => Nat.le_trans h2 h1
  | cons κ ks ih =>
    intro x y h1 h2
    unfold okp at h2 ⊢
    by_cases z : κ.1 = 6 ∨ κ.1 = 7
    · rw [if_pos z] at h2 ⊢
      exact h2
    · rw [if_neg z] at h2 ⊢
      exact ⟨fun w => Nat.le_trans (h2.1 w) h1, ih x y h1 h2.2⟩
def WFK (k p N : Nat) (φ ψ up : Nat → Nat) (U : ev_St) (len n : Nat) (κ : KT) (ks : List KT) : Prop := κ.2.1 < N ∧ ((κ.1 = 1 ∧ κ.2.1 ≠ 0 ∧ U.1 625 (320 * p + κ.2.1) ≠ 18 ∧ cOf k p φ ψ U ks = 4 * (φ (up (up κ.2.1)) : Int) + 1) ∨ (κ.1 = 2 ∧ U.1 625 (320 * p + κ.2.1) = 8 ∧ cOf k p φ ψ U ks = U.1 (k + 7) (φ κ.2.1) ∧ κ.2.2.1 ≤ len) ∨ (κ.1 = 3 ∧ U.1 630 (320 * p + κ.2.1) ≠ -1 ∧ cOf k p φ ψ U ks = U.1 (k + 7) (bt k p ψ U κ.2.1) ∧ κ.2.2.1 + 1 ≤ n ∧ κ.2.2.2 ≤ len) ∨ (κ.1 = 4 ∧ (κ.2.1 = 0 ∨ U.1 625 (320 * p + κ.2.1) = 8)) ∨ (κ.1 = 5 ∧ U.1 625 (320 * p + κ.2.1) = 10 ∧ cOf k p φ ψ U ks = U.1 (k + 7) (φ κ.2.1) ∧ κ.2.2.1 ≤ len) ∨ (κ.1 = 6 ∧ U.1 625 (320 * p + κ.2.1) = 11 ∧ cOf k p φ ψ U ks = U.1 (k + 7) (φ κ.2.1) ∧ κ.2.2.1 ≤ len) ∨ (κ.1 = 7 ∧ U.1 625 (320 * p + κ.2.1) = 12 ∧ cOf k p φ ψ U ks = U.1 (k + 7) (φ κ.2.1) ∧ κ.2.2.1 ≤ len) ∨ (κ.1 = 8 ∧ κ.2.1 ≠ 0 ∧ (U.1 625 (320 * p + κ.2.1) = 9 ∨ U.1 625 (320 * p + κ.2.1) = 13) ∧ cOf k p φ ψ U ks = U.1 (k + 7) (φ κ.2.1)) ∨ (κ.1 = 9 ∧ U.1 630 (320 * p + κ.2.1) = 2 ∧ cOf k p φ ψ U ks = U.1 (k + 7) (ψ κ.2.1) ∧ κ.2.2.1 ≤ len))
def WFL (k p N : Nat) (φ ψ up : Nat → Nat) (U : ev_St) (len n : Nat) : List KT → Prop
  | [] => True
  | κ :: ks => WFK k p N φ ψ up U len n κ ks ∧ WFL k p N φ ψ up U len n ks
theorem WFL_n (hn : n ≤ n2) : ∀ ks : List KT, WFL k p N φ ψ up U len n ks → WFL k p N φ ψ up U len n2 ks := fun ks => by
  induction ks with
  | nil => exact fun _ => True.intro
  | cons κ ks ih =>
    rintro ⟨⟨h1, h2⟩, h3⟩
    refine ⟨⟨h1, ?_⟩, ih h3⟩
    rcases h2 with y | y | ⟨y1, y2, y3, y4, y5⟩ | y
    · exact Or.inl y
    · exact Or.inr (Or.inl y)
    · exact Or.inr (Or.inr (Or.inl ⟨y1, y2, y3, Nat.le_trans y4 hn, y5⟩))
    · exact Or.inr (Or.inr (Or.inr y))
/-- what a frame has in it: the class's cell u, the reference's v -/
def CHF (k p : Nat) (φ ψ : Nat → Nat) (U S T : ev_St) (us ls h : Nat) (κ : KT) (ks : List KT) (u v : Nat) : Prop := (κ.1 = 2 ∧ T.1 681 v = 2 ∧ T.1 682 v = ((320 * p + κ.2.1 : Nat) : Int) ∧ T.1 683 v = (κ.2.2.1 : Int) ∧ S.1 282 (u + 2) = (κ.2.2.1 : Int)) ∨ (κ.1 = 3 ∧ T.1 681 v = 3 ∧ T.1 682 v = ((320 * p + κ.2.1 : Nat) : Int) ∧ T.1 683 v = 256 * ((κ.2.2.1 : Int) + 1) + (κ.2.2.2 : Int) ∧ S.1 282 (u + 2) = (κ.2.2.1 : Int) ∧ S.1 282 (u + 3) = (κ.2.2.2 : Int)) ∨ (κ.1 = 4 ∧ T.1 681 v = 4 ∧ S.1 282 (u + 2) = cOf k p φ ψ U ks ∧ ∃ ng, ng ≤ ls ∧ GL S T us ls ng (S.1 282 (u + 3)) (T.1 684 v)) ∨ ((κ.1 = 5 ∨ κ.1 = 6 ∨ κ.1 = 7 ∨ κ.1 = 9) ∧ T.1 681 v = (if κ.1 = 9 then 5 else (κ.1 : Int)) ∧ T.1 682 v = ((320 * p + κ.2.1 : Nat) : Int) ∧ T.1 683 v = (κ.2.2.2 : Int) ∧ S.1 282 (u + 2) = (κ.2.2.1 : Int) ∧ S.1 282 (u + 3) = (κ.2.2.2 : Int) ∧ κ.2.2.2 < h ∧ T.1 690 κ.2.2.2 = (κ.2.2.1 : Int) ∧ 3 ≤ T.1 687 κ.2.2.2 ∧ T.1 687 κ.2.2.2 ≤ 5)
/-- how many choices stand below a frame's look -/
def hK (h : Nat) (κ : KT) : Nat := if κ.1 = 5 ∨ κ.1 = 6 ∨ κ.1 = 7 ∨ κ.1 = 9 then κ.2.2.2 else h
def CH (k p : Nat) (φ ψ : Nat → Nat) (U S T : ev_St) (us vs ls : Nat) : Nat → List KT → Int → Int → Prop
  | _, [], f, t => f = -1 ∧ ∃ v : Nat, t = (v : Int) ∧ v < vs ∧ T.1 681 v = 0
  | h, κ :: ks, f, t => (κ.1 = 8 ∧ CH k p φ ψ U S T us vs ls h ks f t) ∨ ∃ v : Nat, t = (v : Int) ∧ v < vs ∧ T.1 686 v = ((dOf ks + 64 * lOf ks : Nat) : Int) ∧ ((κ.1 = 1 ∧ T.1 681 v = 1 ∧ T.1 682 v = ((320 * p + κ.2.1 : Nat) : Int) ∧ CH k p φ ψ U S T us vs ls h ks f (T.1 685 v)) ∨ ∃ u : Nat, f = (u : Int) ∧ u + 4 ≤ us ∧ S.1 282 (u + 1) = ((256 * lOf (κ :: ks) + 8 * dOf (κ :: ks) + tagK κ : Nat) : Int) ∧ CHF k p φ ψ U S T us ls h κ ks u v ∧ CH k p φ ψ U S T us vs ls (hK h κ) ks (S.1 282 u) (T.1 685 v))
/-- below the marks nothing has changed -/
def AC (us h : Nat) (S S2 : ev_St) : Prop := (∀ i, i < us → S2.1 282 i = S.1 282 i) ∧ (∀ i, i < 6 * h → S2.1 283 i = S.1 283 i) ∧ S2.2 = S.2 ∧ ∀ c g, ¬ (281 ≤ c ∧ c ≤ 283) → S2.1 c g = S.1 c g
def AR (vs h ls : Nat) (T T2 : ev_St) : Prop := (∀ c i, 681 ≤ c → c ≤ 686 → i < vs → T2.1 c i = T.1 c i) ∧ (∀ c i, 687 ≤ c → c ≤ 695 → i < h → T2.1 c i = T.1 c i) ∧ (∀ c i, 696 ≤ c → c ≤ 699 → i < ls → T2.1 c i = T.1 c i) ∧ T2.2 = T.2 ∧ ∀ c g, ¬ (c = 621 ∧ ((75 ≤ g ∧ g ≤ 78) ∨ (80 ≤ g ∧ g ≤ 105))) → ¬ (681 ≤ c ∧ c ≤ 699) → T2.1 c g = T.1 c g
theorem GL_m (ha : AC us h S S2) (hr : AR vs h ls T T2) (hu : us ≤ us2) (hl : ls ≤ ls2) {n : Nat} {x y : Int} (g : GL S T us ls n x y) : GL S2 T2 us2 ls2 n x y := GL_c ha.1 (fun c v h1 h2 h3 => hr.2.2.1 c v h1 h2 h3) (hr.2.2.2.2 _ _ (by omega) (by omega)) (by rw [hr.2.2.2.2 621 79 (by omega) (by omega), hr.2.2.2.2 636 _ (by omega) (by omega)]) hu hl n x y g
theorem AC_le (h1 : AC us h S S2) (hu : us2 ≤ us) (hh : h2 ≤ h) : AC us2 h2 S S2 := ⟨fun i y => h1.1 i (by omega), fun i y => h1.2.1 i (by omega), h1.2.2⟩
theorem AR_le (h1 : AR vs h ls T T2) (hv : vs2 ≤ vs) (hh : h2 ≤ h) (hl : ls2 ≤ ls) : AR vs2 h2 ls2 T T2 := ⟨fun c i y1 y2 y => h1.1 c i y1 y2 (by omega), fun c i y1 y2 y => h1.2.1 c i y1 y2 (by omega), fun c i y1 y2 y => h1.2.2.1 c i y1 y2 (by omega), h1.2.2.2⟩
theorem CH_m (hu : us ≤ us2) (hv : vs ≤ vs2) (hl : ls ≤ ls2) : ∀ (ks : List KT) (h h2 : Nat) (f t : Int), AC us h S S2 → AR vs h ls T T2 → h ≤ h2 → CH k p φ ψ U S T us vs ls h ks f t → CH k p φ ψ U S2 T2 us2 vs2 ls2 h2 ks f t := fun ks => by
  induction ks with
  | nil =>
    rintro h h2 f t ha hr hh ⟨h1, v, h3, h4, h5⟩
    exact ⟨h1, v, h3, by omega, by rw [hr.1 _ _ (by omega) (by omega) h4]; exact h5⟩
  | cons κ ks ih =>
    rintro h h2 f t ha hr hh (⟨h1, h3⟩ | ⟨v, h1, h3, h4, h5⟩)
    · exact Or.inl ⟨h1, ih h h2 f t ha hr hh h3⟩
    · have r : ∀ c, 681 ≤ c → c ≤ 686 → T2.1 c v = T.1 c v := fun c y1 y2 => hr.1 c v y1 y2 h3
      refine Or.inr ⟨v, h1, by omega, by rw [r 686 (by omega) (by omega)]; exact h4, ?_⟩
      rcases h5 with ⟨y1, y2, y3, y4⟩ | ⟨u, y1, y2, y3, y4, y5⟩
      · exact Or.inl ⟨y1, by rw [r 681 (by omega) (by omega)]; exact y2, by rw [r 682 (by omega) (by omega)]; exact y3, by rw [r 685 (by omega) (by omega)]; exact ih h h2 _ _ ha hr hh y4⟩
      · have s : ∀ i, i < 4 → S2.1 282 (u + i) = S.1 282 (u + i) := fun i y => ha.1 _ (by omega)
        have hk1 : hK h κ ≤ h ∧ hK h κ ≤ hK h2 κ := by
          rcases y4 with z | z | z | z
          · rw [show hK h κ = h from if_neg (by omega), show hK h2 κ = h2 from if_neg (by omega)]
            omega
          · rw [show hK h κ = h from if_neg (by omega), show hK h2 κ = h2 from if_neg (by omega)]
            omega
          · rw [show hK h κ = h from if_neg (by omega), show hK h2 κ = h2 from if_neg (by omega)]
            omega
          · have z7 := z.2.2.2.2.2.2.1
            rw [show hK h κ = κ.2.2.2 from if_pos z.1, show hK h2 κ = κ.2.2.2 from if_pos z.1]
            omega
        refine Or.inr ⟨u, y1, by omega, by rw [s 1 (by omega)]; exact y3, ?_, by rw [show S2.1 282 u = S.1 282 u from s 0 (by omega), r 685 (by omega) (by omega)]; exact ih (hK h κ) (hK h2 κ) _ _ (AC_le ha (Nat.le_refl _) hk1.1) (AR_le hr (Nat.le_refl _) hk1.1 (Nat.le_refl _)) hk1.2 y5⟩
        unfold CHF at y4 ⊢
        rw [r 681 (by omega) (by omega), r 682 (by omega) (by omega), r 683 (by omega) (by omega), r 684 (by omega) (by omega), s 2 (by omega), s 3 (by omega)]
        rcases y4 with z | z | ⟨z1, z2, z3, ng, z4, z5⟩ | ⟨z1, z2, z3, z4, z5, z6, z7, z8, z9⟩
        · exact Or.inl z
        · exact Or.inr (Or.inl z)
        · exact Or.inr (Or.inr (Or.inl ⟨z1, z2, z3, ng, by omega, GL_m ha hr hu hl z5⟩))
        · exact Or.inr (Or.inr (Or.inr ⟨z1, z2, z3, z4, z5, z6, by omega, by rw [hr.2.1 690 _ (by omega) (by omega) z7]; exact z8, by rw [hr.2.1 687 _ (by omega) (by omega) z7]; exact z9⟩))
/-- calls and looks around what a chain stands on -/
theorem CH_aro (hd : dOf ks ≤ 20) (hl : lOf ks ≤ 40) : ∀ {f t : Int}, CH k p φ ψ U S T us vs ls h ks f t → ARo S us f (lOf ks) (dOf ks) := by
  induction ks generalizing h with
  | nil =>
    intro f t h
    exact Or.inl ⟨h.1, rfl, rfl⟩
  | cons κ ks ih =>
    intro f t h
    have e1 : dOf (κ :: ks) = dOf ks + (if κ.1 = 4 then 1 else 0) := rfl
    have e2 : lOf (κ :: ks) = lOf ks + (if κ.1 = 5 ∨ κ.1 = 6 ∨ κ.1 = 7 ∨ κ.1 = 9 then 1 else 0) := rfl
    have tg : tagK κ < 8 := by
      unfold tagK
      split
      · omega
      · split
        · omega
        · split <;> omega
    rcases h with ⟨y1, y2⟩ | ⟨v, y1, y2, y3, ⟨y4, y5, y6, y7⟩ | ⟨u, y4, y5, y6, y7, y8⟩⟩
    · rw [e1, if_neg (by omega)] at hd ⊢
      rw [e2, if_neg (by omega)] at hl ⊢
      exact ih hd hl y2
    · rw [e1, if_neg (by omega)] at hd ⊢
      rw [e2, if_neg (by omega)] at hl ⊢
      exact ih hd hl y7
    · exact Or.inr ⟨u, tagK κ, y4, y5, y6, hl, hd, tg⟩
/-- what a choice is on both sides: the choice h, laid when the marks stood at u, v, g -/
def PTRY (k p N : Nat) (φ ψ own up lo : Nat → Nat) (U : ev_St) (C : Int) (V : Nat → Nat → Nat → List KT → Nat → Int) (S T : ev_St) (h u v g n x : Nat) (ks : List KT) : Prop := (T.1 687 h = 0 ∧ ∃ r, r < N ∧ U.1 625 (320 * p + r) = 18 ∧ T.1 688 h = ((320 * p + r : Nat) : Int) ∧ S.1 283 (6 * h + 1) = 4 * (φ r : Int) ∧ cOf k p φ ψ U ks = 4 * (φ (up r) : Int) + 1 ∧ CH k p φ ψ U S T u v g h ks (S.1 283 (6 * h + 3)) (T.1 692 h) ∧ u + 4 * (pcL p N φ lo U (pE lo r) + zsOf k p N φ ψ own lo U ks) ≤ 76 * n + 72 ∧ 2 * (v : Int) + V 8 r 0 ks x ≤ 299 * (n : Int) + C) ∨ (T.1 687 h = 1 ∧ S.1 283 (6 * h + 1) = cOf k p φ ψ U ks ∧ CH k p φ ψ U S T u v g h ks (S.1 283 (6 * h + 3)) (T.1 692 h) ∧ u + 4 * (pcL p N φ lo U (posC own lo N (cOf k p φ ψ U ks)) + zsOf k p N φ ψ own lo U ks) ≤ 76 * n + 72 ∧ 2 * (v : Int) + V 0 0 0 ks x ≤ 299 * (n : Int) + C) ∨ (T.1 687 h = 2 ∧ ∃ m a : Nat, m < N ∧ U.1 630 (320 * p + m) = 1 ∧ T.1 688 h = ((320 * p + m : Nat) : Int) ∧ T.1 689 h = (a : Int) ∧ a ≤ n ∧ S.1 283 (6 * h + 1) = 4 * (bt k p ψ U m : Int) + 2 ∧ cOf k p φ ψ U ks = U.1 (k + 7) (bt k p ψ U m) ∧ (∃ u0 : Nat, S.1 283 (6 * h + 3) = (u0 : Int) ∧ u0 + 4 ≤ u ∧ S.1 282 (u0 + 1) = ((256 * lOf ks + 8 * dOf ks : Nat) : Int) ∧ S.1 282 (u0 + 2) = (a : Int) ∧ S.1 282 (u0 + 3) = (x : Int) ∧ CH k p φ ψ U S T u v g h ks (S.1 282 u0) (T.1 692 h)) ∧ u + 4 * (pcL p N φ lo U (pL lo N (bt k p ψ U m)) + zsOf k p N φ ψ own lo U ks) ≤ 76 * n + 72 ∧ 2 * (v : Int) + V 9 m a ks x ≤ 299 * (n : Int) + C)
def PWAL (k p N : Nat) (φ ψ own up lo : Nat → Nat) (U : ev_St) (C : Int) (V : Nat → Nat → Nat → List KT → Nat → Int) (S T : ev_St) (h u v g n x : Nat) (ks : List KT) : Prop := ∃ m b : Nat, m < N ∧ T.1 688 h = ((320 * p + m : Nat) : Int) ∧ S.1 283 (6 * h + 1) = 4 * (b : Int) ∧ cOf k p φ ψ U ks = U.1 (k + 7) b ∧ (∃ u0 : Nat, S.1 283 (6 * h + 3) = (u0 : Int) ∧ u0 + 4 ≤ u ∧ S.1 282 (u0 + 1) = ((256 * (lOf ks + 1) + 8 * dOf ks + 3 : Nat) : Int) ∧ S.1 282 (u0 + 2) = (x : Int) ∧ S.1 282 (u0 + 3) = (h : Int) ∧ CH k p φ ψ U S T u v g h ks (S.1 282 u0) (T.1 692 h)) ∧ ((T.1 687 h = 3 ∧ ((b = φ m ∧ U.1 625 (320 * p + m) = 10) ∨ (b = ψ m ∧ U.1 630 (320 * p + m) = 2))) ∨ (T.1 687 h = 4 ∧ b = φ m ∧ U.1 625 (320 * p + m) = 11) ∨ (T.1 687 h = 5 ∧ b = φ m ∧ U.1 625 (320 * p + m) = 12 ∧ ∃ y : Nat, S.1 283 (6 * h + 2) = (y : Int) ∧ T.1 689 h = (y : Int) ∧ y ≤ x)) ∧ lOf ks + 1 ≤ 40 ∧ u + 4 * (pcL p N φ lo U (pE lo m) + zsOf k p N φ ψ own lo U ks) ≤ 76 * n + 72 ∧ (T.1 687 h ≠ 3 → 2 * (v : Int) + V 0 0 0 ks x ≤ 299 * (n : Int) + C) ∧ (T.1 687 h = 5 → ∀ y, y ≤ x → 2 * (v : Int) + 2 + V 3 m 0 ((7, m, x, h) :: ks) y ≤ 299 * (n : Int) + C)
def PAIR (k p N : Nat) (φ ψ own up lo : Nat → Nat) (U : ev_St) (len x0 : Nat) (C : Int) (V : Nat → Nat → Nat → List KT → Nat → Int) (S T : ev_St) (h u v g n : Nat) : Prop := (S.1 283 (6 * h + 5) = (u : Int) ∧ T.1 694 h = (v : Int) ∧ T.1 695 h = (g : Int) ∧ (g = 0 ∨ 4 * g + 4 ≤ u)) ∧ ((((S.1 283 (6 * h) = 2 ∧ T.1 687 h = 6) ∨ (S.1 283 (6 * h) = 3 ∧ T.1 687 h = 7)) ∧ S.1 283 (6 * h + 2) = T.1 690 h) ∨ ∃ (ks : List KT) (x ng : Nat), WFL k p N φ ψ up U len n ks ∧ (dOf ks ≤ 20 ∧ lOf ks ≤ 40 ∧ h + rkOf ks ≤ n) ∧ T.1 690 h = (x : Int) ∧ x ≤ len ∧ okp x0 ks x ∧ T.1 693 h = ((dOf ks + 64 * lOf ks : Nat) : Int) ∧ ng ≤ g ∧ GL S T u g ng (S.1 283 (6 * h + 4)) (T.1 691 h) ∧ ((S.1 283 (6 * h) = 0 ∧ S.1 283 (6 * h + 2) = (x : Int) ∧ PTRY k p N φ ψ own up lo U C V S T h u v g n x ks) ∨ (S.1 283 (6 * h) = 1 ∧ PWAL k p N φ ψ own up lo U C V S T h u v g n x ks)))
/-- the choices -/
def CPS (k p N : Nat) (φ ψ own up lo : Nat → Nat) (U : ev_St) (len x0 : Nat) (C : Int) (V : Nat → Nat → Nat → List KT → Nat → Int) (S T : ev_St) (n : Nat) : Nat → Nat → Nat → Nat → Prop
  | 0, _, _, _ => True
  | h + 1, us, vs, ls => ∃ u v g, u ≤ us ∧ v ≤ vs ∧ g ≤ ls ∧ PAIR k p N φ ψ own up lo U len x0 C V S T h u v g n ∧ CPS k p N φ ψ own up lo U len x0 C V S T n h u v g
end OPZC
