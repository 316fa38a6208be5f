/-! PROGRAMS: what leads on to a match, all of it -/
section PROG14
variable {Q g n i : Nat} {S U V : ev_St}
def FRl (g : Nat) (S U : ev_St) : Prop := (∀ x i, x ≠ g + 5 → U.1 x i = S.1 x i) ∧ U.2 = S.2
theorem FRl_r : FRl g S S := ⟨fun _ _ _ => rfl, rfl⟩
theorem FRl_t (h : FRl g S U) (h2 : FRl g U V) : FRl g S V := ⟨fun x i z => (h2.1 x i z).trans (h.1 x i z), h2.2.trans h.2⟩
theorem FRl_w {a : Nat} {v : Int} : FRl g S (ev_pI S (g + 5) a v) := ⟨fun x i z => ev_pI_ne z, rfl⟩
theorem PL_l {L : List INS} (h : PL g S L) (f : FRl g S U) : PL g U L := by
  obtain ⟨a, b, c⟩ := h
  refine ⟨(f.1 g 5 (by omega)).trans a, b, fun i x hx => ?_⟩
  obtain ⟨c1, c2, c3⟩ := c i x hx
  refine ⟨(f.1 _ _ (by omega)).trans c1, (f.1 _ _ (by omega)).trans c2, fun z => ?_⟩
  rw [f.2]
  exact c3 z
def ldQ (P : Nat → Prop) (n i : Nat) (x : INS) : Prop := if x.1 = 0 then (i + 1 < n ∧ P (i + 1)) ∧ (x.2.2.1 ≠ 0 ∨ x.2.2.2 ≠ 0) else if x.1 = 2 then (0 ≤ (i : Int) + x.2.1 ∧ (i : Int) + x.2.1 < n) ∧ P ((i : Int) + x.2.1).toNat else if x.1 = 3 ∨ x.1 = 4 then (i + 1 < n ∧ P (i + 1)) ∨ ((0 ≤ (i : Int) + x.2.1 ∧ (i : Int) + x.2.1 < n) ∧ P ((i : Int) + x.2.1).toNat) else if x.1 = 6 then True else i + 1 < n ∧ P (i + 1)
theorem ldL_Q {L : List INS} {x : INS} (hp : PL g U L) (hx : L[i]? = some x) : ldL g n i x U ↔ ldQ (fun a => U.1 (g + 5) a ≠ 0) n i x := by
  obtain ⟨_, _, e3⟩ := hp.2.2 i x hx
  unfold ldL ldQ
  by_cases x0 : x.1 = 0
  · obtain ⟨y1, y2⟩ := e3 x0
    rw [if_pos x0, if_pos x0, y1, y2]
  · rw [if_neg x0, if_neg x0]
theorem ldQ_m {P P' : Nat → Prop} {x : INS} (h : ∀ a, a < n → P a → P' a) (z : ldQ P n i x) : ldQ P' n i x := by
  unfold ldQ at z ⊢
  by_cases x0 : x.1 = 0
  · rw [if_pos x0] at z ⊢
    exact ⟨⟨z.1.1, h _ z.1.1 z.1.2⟩, z.2⟩
  · rw [if_neg x0] at z ⊢
    by_cases x2 : x.1 = 2
    · rw [if_pos x2] at z ⊢
      exact ⟨z.1, h _ (by omega) z.2⟩
    · rw [if_neg x2] at z ⊢
      by_cases x34 : x.1 = 3 ∨ x.1 = 4
      · rw [if_pos x34] at z ⊢
        rcases z with w | w
        · exact Or.inl ⟨w.1, h _ w.1 w.2⟩
        · exact Or.inr ⟨w.1, h _ (by omega) w.2⟩
      · rw [if_neg x34] at z ⊢
        by_cases x6 : x.1 = 6
        · rw [if_pos x6] at z ⊢
          trivial
        · rw [if_neg x6] at z ⊢
          exact ⟨z.1, h _ z.1 z.2⟩
def clQ (L : List INS) (P : Nat → Prop) : Prop := ∀ (i : Nat) (x : INS), L[i]? = some x → ldQ P L.length i x → P i
/-- what can still come to a match -/
def LVE (L : List INS) (a : Nat) : Prop := ∀ P, clQ L P → P a
theorem LVE_c {L : List INS} : clQ L (LVE L) := fun i x hx z P hP => hP i x hx (ldQ_m (fun a _ w => w P hP) z)
def ctL (f : Nat → Int) : Nat → Nat
  | 0 => 0
  | m + 1 => ctL f m + (if f m = 0 then 0 else 1)
theorem ctL_le {f : Nat → Int} : ∀ m, ctL f m ≤ m := fun m => by
  induction m with
  | zero => exact Nat.le_refl _
  | succ m ih =>
    show ctL f m + (if f m = 0 then 0 else 1) ≤ m + 1
    split <;> omega
theorem ctL_c {f f' : Nat → Int} : ∀ m, (∀ b, b < m → f' b = f b) → ctL f' m = ctL f m := fun m => by
  induction m with
  | zero => exact fun _ => rfl
  | succ m ih =>
    intro h
    show ctL f' m + (if f' m = 0 then 0 else 1) = ctL f m + (if f m = 0 then 0 else 1)
    rw [ih (fun b hb => h b (by omega)), h m (by omega)]
theorem ctL_s {f f' : Nat → Int} {a : Nat} (h0 : f a = 0) (h1 : f' a ≠ 0) (h2 : ∀ b, b ≠ a → f' b = f b) : ∀ m, a < m → ctL f' m = ctL f m + 1 := fun m => by
  induction m with
  | zero => exact fun h => absurd h (by omega)
  | succ m ih =>
    intro h
    show ctL f' m + (if f' m = 0 then 0 else 1) = ctL f m + (if f m = 0 then 0 else 1) + 1
    by_cases y : a = m
    · subst y
      rw [if_neg h1, if_pos h0, ctL_c a (fun b hb => h2 b (by omega))]
    · rw [ih (by omega), h2 m (by omega)]
      omega
def IAL (g : Nat) (L : List INS) (U : ev_St) : Prop := ∀ a, a < L.length → U.1 (g + 5) a ≠ 0 → LVE L a
theorem run79_46 {L : List INS} {x8 : Int} {K26 : Int → Int → ev_St → Option (Unit × ev_St)} (hg : al5 g) (ht : TG L) : ∀ (m q : Nat) (x18 : Int) (U : ev_St), m < q → m ≤ L.length → PL g U L → IAL g L U → ∃ f V, jl_79_46 Q g x8 K26 q x18 ((m : Int) - 1) U = ev_ck (x8 + 1) (fun x27 => K26 f x27 V) ∧ FRl g U V ∧ IAL g L V ∧ ctL (V.1 (g + 5)) L.length ≥ ctL (U.1 (g + 5)) L.length ∧ (f = 0 → x18 = 0 ∧ V = U ∧ ∀ (a : Nat) (x : INS), a < m → L[a]? = some x → U.1 (g + 5) a = 0 → ¬ ldL g L.length a x U) ∧ (f ≠ 0 → x18 ≠ 0 ∨ ctL (V.1 (g + 5)) L.length ≥ ctL (U.1 (g + 5)) L.length + 1) := fun m => by
  induction m with
  | zero =>
    intro q x18 U hq hm hp hI
    obtain ⟨q, rfl⟩ : ∃ r, q = r + 1 := ⟨q - 1, by omega⟩
    refine ⟨x18, U, ?_, FRl_r, hI, Nat.le_refl _, fun z => ⟨z, rfl, fun a x ha => absurd ha (by omega)⟩, fun z => Or.inl z⟩
    show jb_79_46 _ _ _ _ _ _ _ _ = _
    unfold jb_79_46
    rw [if_pos (by omega)]
  | succ m ih =>
    intro q x18 U hq hm hp hI
    obtain ⟨q, rfl⟩ : ∃ r, q = r + 1 := ⟨q - 1, by omega⟩
    obtain ⟨x, hx⟩ : ∃ x, L[m]? = some x := ⟨L[m]'(by omega), List.getElem?_eq_getElem (by omega)⟩
    have l5 := hg.2.2.2.2
    have p2 := hp.2.1
    have hd : jl_79_46 Q g x8 K26 (q + 1) x18 (((m + 1 : Nat) : Int) - 1) U = jb_79_46 Q g x8 K26 (jl_79_46 Q g x8 K26 q) x18 (m : Int) U := by
      rw [show ((m + 1 : Nat) : Int) - 1 = (m : Int) from by omega]
      rfl
    rw [hd]
    unfold jb_79_46
    rw [if_neg (by omega), sp_if (by rw [l5]; omega), sp_b, Int.toNat_natCast, sp_jn]
    by_cases c : U.1 (g + 5) m = 0
    · obtain ⟨v, ev, hv⟩ := sp_80 (Q := Q) hg hp hx (ht m x hx)
      rw [if_neg (fun z => z c), ev, sp_bd]
      rcases hv with ⟨rfl, hv⟩ | ⟨rfl, hv⟩
      · have fw : FRl g U (ev_pI U (g + 5) m 1) := FRl_w
        have hI' : IAL g L (ev_pI U (g + 5) m 1) := fun a ha z => by
          by_cases y : a = m
          · subst y
            exact LVE_c a x hx (ldQ_m (fun b hb w => hI b hb w) ((ldL_Q hp hx).mp hv))
          · exact hI a ha (by rw [ev_pI_ne2 y] at z; exact z)
        have e1 : ctL ((ev_pI U (g + 5) m 1).1 (g + 5)) L.length = ctL (U.1 (g + 5)) L.length + 1 := ctL_s c (by rw [ev_pI_eq]; decide) (fun b hb => ev_pI_ne2 hb) L.length (by omega)
        obtain ⟨f, V, r1, r2, r3, r4, r5, r6⟩ := ih q 1 (ev_pI U (g + 5) m 1) (by omega) (by omega) (PL_l hp fw) hI'
        refine ⟨f, V, ?_, FRl_t fw r2, r3, by omega, fun z => absurd (r5 z).1 (by decide), fun z => Or.inr (by omega)⟩
        rw [if_neg (by decide), sp_if (by rw [l5]; omega), sp_b]
        dsimp only
        rw [sp_ck (by omega), show (m : Int) + -1 = (m : Int) - 1 from by omega, r1]
      · obtain ⟨f, V, r1, r2, r3, r4, r5, r6⟩ := ih q x18 U (by omega) (by omega) hp hI
        refine ⟨f, V, ?_, r2, r3, r4, fun z => ?_, r6⟩
        · rw [if_pos rfl]
          dsimp only
          rw [sp_ck (by omega), show (m : Int) + -1 = (m : Int) - 1 from by omega, r1]
        · obtain ⟨s1, s2, s3⟩ := r5 z
          refine ⟨s1, s2, fun a y ha hy w => ?_⟩
          by_cases t : a = m
          · subst t
            rw [hx] at hy
            cases hy
            exact hv
          · exact s3 a y (by omega) hy w
    · rw [if_pos c]
      obtain ⟨f, V, r1, r2, r3, r4, r5, r6⟩ := ih q x18 U (by omega) (by omega) hp hI
      refine ⟨f, V, ?_, r2, r3, r4, fun z => ?_, r6⟩
      · dsimp only
        rw [sp_ck (by omega), show (m : Int) + -1 = (m : Int) - 1 from by omega, r1]
      · obtain ⟨s1, s2, s3⟩ := r5 z
        refine ⟨s1, s2, fun a y ha hy w => ?_⟩
        by_cases t : a = m
        · subst t
          exact absurd w c
        · exact s3 a y (by omega) hy w
/-- the cells of what leads on tell just what can come to a match -/
def LVD (g : Nat) (L : List INS) (U : ev_St) : Prop := ∀ a, a < L.length → (U.1 (g + 5) a ≠ 0 ↔ LVE L a)
theorem run79_26 {L : List INS} (hg : al5 g) (ht : TG L) (hQ : 300 < Q) : ∀ (r t q : Nat) (x7 : Int) (U : ev_St), r < q → t + r = 209 → PL g U L → IAL g L U → (x7 = 0 → LVD g L U) → (x7 ≠ 0 → t ≤ ctL (U.1 (g + 5)) L.length) → ∃ V, jl_79_26 Q g q x7 (t : Int) U = some ((), V) ∧ FRl g U V ∧ LVD g L V := fun r => by
  induction r with
  | zero =>
    intro t q x7 U hq ht2 hp hI h0 h1
    obtain ⟨q, rfl⟩ : ∃ r, q = r + 1 := ⟨q - 1, by omega⟩
    have p2 := hp.2.1
    have cl := ctL_le (f := U.1 (g + 5)) L.length
    have z0 : x7 = 0 := by
      by_cases y : x7 = 0
      · exact y
      · exact absurd (h1 y) (by omega)
    refine ⟨U, ?_, FRl_r, h0 z0⟩
    show jb_79_26 _ _ _ _ _ _ = _
    unfold jb_79_26
    rw [if_pos (by omega)]
  | succ r ih =>
    intro t q x7 U hq ht2 hp hI h0 h1
    obtain ⟨q, rfl⟩ : ∃ r, q = r + 1 := ⟨q - 1, by omega⟩
    by_cases z0 : x7 = 0
    · refine ⟨U, ?_, FRl_r, h0 z0⟩
      show jb_79_26 _ _ _ _ _ _ = _
      unfold jb_79_26
      rw [if_neg (by omega), if_pos z0]
    · have p2 := hp.2.1
      obtain ⟨f, V, r1, r2, r3, r4, r5, r6⟩ := run79_46 (Q := Q) (x8 := (t : Int)) (K26 := jl_79_26 Q g q) hg ht L.length Q 0 U (by omega) (Nat.le_refl _) hp hI
      obtain ⟨W, s1, s2, s3⟩ := ih (t + 1) q f V (by omega) (by omega) (PL_l hp r2) r3 (fun z => by
        obtain ⟨_, rfl, y⟩ := r5 z
        intro a ha
        refine ⟨hI a ha, fun w => w (fun b => V.1 (g + 5) b ≠ 0) (fun i x hx v => ?_)⟩
        by_cases u : V.1 (g + 5) i = 0
        · have hi : i < L.length := by
            by_cases y : i < L.length
            · exact y
            · rw [List.getElem?_eq_none (by omega)] at hx
              cases hx
          exact absurd ((ldL_Q hp hx).mpr v) (y i x hi hx u)
        · exact u) (fun z => by
        rcases r6 z with w | w
        · exact absurd rfl w
        · have := h1 z0
          omega)
      refine ⟨W, ?_, FRl_t r2 s2, s3⟩
      show jb_79_26 _ _ _ _ _ _ = _
      unfold jb_79_26
      rw [if_neg (by omega), if_neg z0, sp_b, hp.1, sp_ck (by omega), r1, sp_ck (by omega), show (t : Int) + 1 = ((t + 1 : Nat) : Int) from by omega, s1]
theorem run79_2 {L : List INS} (hg : al5 g) (ht : TG L) (hQ : 300 < Q) : ∀ (r a q : Nat) (U : ev_St), r < q → a + r = 208 → PL g U L → (∀ b, b < a → U.1 (g + 5) b = 0) → ∃ V, jl_79_2 Q g q (a : Int) U = some ((), V) ∧ FRl g U V ∧ LVD g L V := fun r => by
  induction r with
  | zero =>
    intro a q U hq ha hp h0
    obtain ⟨q, rfl⟩ : ∃ r, q = r + 1 := ⟨q - 1, by omega⟩
    have p2 := hp.2.1
    obtain ⟨V, r1, r2, r3⟩ := run79_26 (Q := Q) hg ht hQ 209 0 Q 1 U (by omega) (by omega) hp (fun b hb z => absurd (h0 b (by omega)) z) (fun z => absurd z (by decide)) (fun _ => Nat.zero_le _)
    refine ⟨V, ?_, r2, r3⟩
    show jb_79_2 _ _ _ _ _ = _
    unfold jb_79_2
    rw [if_pos (by omega)]
    exact r1
  | succ r ih =>
    intro a q U hq ha hp h0
    obtain ⟨q, rfl⟩ : ∃ r, q = r + 1 := ⟨q - 1, by omega⟩
    have l5 := hg.2.2.2.2
    have fw : FRl g U (ev_pI U (g + 5) a 0) := FRl_w
    obtain ⟨V, r1, r2, r3⟩ := ih (a + 1) q (ev_pI U (g + 5) a 0) (by omega) (by omega) (PL_l hp fw) (fun b hb => by
      by_cases y : b = a
      · subst y
        exact ev_pI_eq
      · rw [ev_pI_ne2 y]
        exact h0 b (by omega))
    refine ⟨V, ?_, FRl_t fw r2, r3⟩
    show jb_79_2 _ _ _ _ _ = _
    unfold jb_79_2
    rw [if_neg (by omega), sp_if (by rw [l5]; omega), sp_b, Int.toNat_natCast, sp_ck (by omega), show (a : Int) + 1 = ((a + 1 : Nat) : Int) from by omega, r1]
theorem sp_79 {L : List INS} (hg : al5 g) (ht : TG L) (hQ : 300 < Q) (hp : PL g U L) : ∃ V, jm_79 Q g U = some ((), V) ∧ FRl g U V ∧ PL g V L ∧ LVD g L V := by
  obtain ⟨V, r1, r2, r3⟩ := run79_2 (Q := Q) hg ht hQ 208 0 Q U (by omega) (by omega) hp (fun b hb => absurd hb (by omega))
  exact ⟨V, r1, r2, PL_l hp r2, r3⟩
end PROG14
