/-! THE READER'S TABLES: what a node that is done is on both sides -/
section NREL
/-- a link: none, to a node that is still open (none on the class's side), or to one that is done -/
def lnk (N : Nat) (cl : Nat → Prop) (f : Nat → Nat) (x y : Int) : Prop := (x = -1 ∧ y = -1) ∨ ∃ t : Nat, x = (t : Int) ∧ t < N ∧ ((¬ cl t ∧ y = -1) ∨ (cl t ∧ y = (f t : Int)))
/-- the class's kind of the reference's kind c with the flag f -/
def kcl (c f : Int) : Int := if c = 0 then 0 else if c = 1 then (if f = 0 then 1 else 2) else if c = 2 then (if f = 0 then 3 else 4) else if c = 3 then 1 else if c = 4 then 3 else if c = 5 then 5 else if c = 6 then 6 else if c = 7 then 7 else if c = 8 then 18 else if c = 9 then 17 else if c = 10 then 19 else if c = 11 then (if f = 0 then 20 else 21) else if c = 12 then (if f = 0 then 22 else 23) else if c = 13 then 8 else if c = 14 then 9 else if c = 15 then 10 else if c = 16 then 11 else if c = 17 then 12 else 15
def KD (k a m : Nat) (S T : ev_St) : Prop := S.1 (k + 1) a = kcl (T.1 625 (3840 + m)) (T.1 629 (3840 + m)) ∧ (T.1 625 (3840 + m) = 0 → SB (S.2.1 (k + 8) a) (S.2.1 (k + 9) a) (T.2.1 633 (3840 + m)) (T.2.1 634 (3840 + m)) ∧ SV (S.2.1 (k + 8) a) (S.2.1 (k + 9) a)) ∧ (T.1 625 (3840 + m) = 7 ∨ T.1 625 (3840 + m) = 8 ∨ T.1 625 (3840 + m) = 13 ∨ T.1 625 (3840 + m) = 14 → S.1 (k + 2) a = T.1 628 (3840 + m)) ∧ (T.1 625 (3840 + m) = 7 → S.1 (k + 3) a = T.1 629 (3840 + m))
/-- how an item is repeated: not at all; a repeat around it; that one in a row in a group of its own -/
def rpt (k M : Nat) (own : Nat → Nat) (m a e : Nat) (S T : ev_St) : Prop := (T.1 630 (3840 + m) = -1 ∧ e = a) ∨ (((T.1 630 (3840 + m) = 0 ∨ T.1 630 (3840 + m) = 1) ∧ a ≠ e) ∧ S.1 (k + 1) e = 13 + T.1 630 (3840 + m) ∧ S.1 (k + 4) e = (a : Int) ∧ S.1 (k + 2) e = T.1 631 (3840 + m) ∧ S.1 (k + 3) e = T.1 632 (3840 + m) ∧ S.1 (k + 5) a = -1) ∨ ((T.1 630 (3840 + m) = 2 ∧ a ≠ e) ∧ ∃ x y : Nat, (x < M ∧ y < M ∧ own x = m ∧ own y = m ∧ x ≠ e ∧ y ≠ e) ∧ (S.1 (k + 1) e = 19 ∧ S.1 (k + 4) e = (x : Int)) ∧ (S.1 (k + 1) x = 15 ∧ S.1 (k + 4) x = (y : Int) ∧ S.1 (k + 5) x = -1) ∧ (S.1 (k + 1) y = 13 ∧ S.1 (k + 4) y = (a : Int) ∧ S.1 (k + 2) y = T.1 631 (3840 + m) ∧ S.1 (k + 3) y = T.1 632 (3840 + m) ∧ S.1 (k + 5) y = -1) ∧ S.1 (k + 5) a = -1)
/-- a node that is done -/
def NR (k N M : Nat) (cl : Nat → Prop) (φ ψ own : Nat → Nat) (S T : ev_St) (m : Nat) : Prop := (φ m < M ∧ ψ m < M ∧ own (φ m) = m ∧ own (ψ m) = m) ∧ KD k (φ m) m S T ∧ rpt k M own m (φ m) (ψ m) S T ∧ ((T.1 625 (3840 + m) = 18 ∧ lnk N cl ψ (T.1 626 (3840 + m)) (S.1 (k + 4) (φ m)) ∧ lnk N cl φ (T.1 627 (3840 + m)) (S.1 (k + 5) (ψ m))) ∨ (T.1 625 (3840 + m) ≠ 18 ∧ lnk N cl φ (T.1 626 (3840 + m)) (S.1 (k + 4) (φ m)) ∧ lnk N cl ψ (T.1 627 (3840 + m)) (S.1 (k + 5) (ψ m))))
variable {k N M N2 M2 m a e : Nat} {cl cl2 : Nat → Prop} {φ ψ own φ2 ψ2 own2 f f2 : Nat → Nat} {S T S2 T2 : ev_St}
theorem lnk_c {x y : Int} (h : lnk N cl f x y) (hN : N ≤ N2) (hc : ∀ t, t < N → (cl2 t ↔ cl t)) (hf : ∀ t, t < N → cl t → f2 t = f t) : lnk N2 cl2 f2 x y := by
  rcases h with h | ⟨t, h1, h2, ⟨h3, h4⟩ | ⟨h3, h4⟩⟩
  · exact Or.inl h
  · exact Or.inr ⟨t, h1, by omega, Or.inl ⟨fun z => h3 ((hc t h2).mp z), h4⟩⟩
  · exact Or.inr ⟨t, h1, by omega, Or.inr ⟨(hc t h2).mpr h3, by rw [hf t h2 h3]; exact h4⟩⟩
theorem KD_c (h : KD k a m S T) (s1 : ∀ j, 1 ≤ j → j ≤ 3 → S2.1 (k + j) a = S.1 (k + j) a) (s2 : ∀ j, 8 ≤ j → j ≤ 9 → S2.2.1 (k + j) a = S.2.1 (k + j) a) (t1 : ∀ c, 625 ≤ c → c ≤ 632 → c ≠ 627 → T2.1 c (3840 + m) = T.1 c (3840 + m)) (t2 : ∀ c, 633 ≤ c → c ≤ 634 → T2.2.1 c (3840 + m) = T.2.1 c (3840 + m)) : KD k a m S2 T2 := by
  unfold KD at h ⊢
  rw [s1 1 (by omega) (by omega), s1 2 (by omega) (by omega), s1 3 (by omega) (by omega), s2 8 (by omega) (by omega), s2 9 (by omega) (by omega), t1 625 (by omega) (by omega) (by omega), t1 628 (by omega) (by omega) (by omega), t1 629 (by omega) (by omega) (by omega), t2 633 (by omega) (by omega), t2 634 (by omega) (by omega)]
  exact h
theorem rpt_c (h : rpt k M own m a e S T) (hM : M ≤ M2) (ho : ∀ b, b < M → own2 b = own b) (ha : a < M ∧ own a = m) (he : e < M ∧ own e = m) (s1 : ∀ b j, b < M → own b = m → 1 ≤ j → j ≤ 5 → ¬ (b = e ∧ j = 5) → S2.1 (k + j) b = S.1 (k + j) b) (t1 : ∀ c, 625 ≤ c → c ≤ 632 → c ≠ 627 → T2.1 c (3840 + m) = T.1 c (3840 + m)) : rpt k M2 own2 m a e S2 T2 := by
  unfold rpt at h ⊢
  rw [t1 630 (by omega) (by omega) (by omega), t1 631 (by omega) (by omega) (by omega), t1 632 (by omega) (by omega) (by omega), s1 e 1 he.1 he.2 (by omega) (by omega) (by omega), s1 e 2 he.1 he.2 (by omega) (by omega) (by omega), s1 e 3 he.1 he.2 (by omega) (by omega) (by omega), s1 e 4 he.1 he.2 (by omega) (by omega) (by omega)]
  rcases h with h | ⟨h0, h⟩ | ⟨h1, x, y, ⟨h2, h3, h4, h5, h10, h11⟩, h6, h7, h8, h9⟩
  · exact Or.inl h
  · refine Or.inr (Or.inl ⟨h0, ?_⟩)
    rw [s1 a 5 ha.1 ha.2 (by omega) (by omega) (fun z => h0.2 z.1)]
    exact h
  · refine Or.inr (Or.inr ⟨h1, x, y, ⟨by omega, by omega, by rw [ho x h2]; exact h4, by rw [ho y h3]; exact h5, h10, h11⟩, h6, ?_, ?_, ?_⟩)
    · rw [s1 x 1 h2 h4 (by omega) (by omega) (by omega), s1 x 4 h2 h4 (by omega) (by omega) (by omega), s1 x 5 h2 h4 (by omega) (by omega) (by omega)]
      exact h7
    · rw [s1 y 1 h3 h5 (by omega) (by omega) (by omega), s1 y 2 h3 h5 (by omega) (by omega) (by omega), s1 y 3 h3 h5 (by omega) (by omega) (by omega), s1 y 4 h3 h5 (by omega) (by omega) (by omega), s1 y 5 h3 h5 (by omega) (by omega) (by omega)]
      exact h8
    · rw [s1 a 5 ha.1 ha.2 (by omega) (by omega) (fun z => h1.2 z.1)]
      exact h9
/-- of this node nothing but what comes next is changed -/
theorem NR_n (h : NR k N M cl φ ψ own S T m) (hm : m < N) (hcm : cl m) (hN : N ≤ N2) (hM : M ≤ M2) (hc : ∀ t, t < N → (cl2 t ↔ cl t)) (hφ : ∀ t, t < N → cl t → φ2 t = φ t) (hψ : ∀ t, t < N → cl t → ψ2 t = ψ t) (ho : ∀ b, b < M → own2 b = own b) (s1 : ∀ b j, b < M → own b = m → 1 ≤ j → j ≤ 5 → ¬ (b = ψ m ∧ j = 5) → S2.1 (k + j) b = S.1 (k + j) b) (s2 : ∀ b j, b < M → own b = m → 8 ≤ j → j ≤ 9 → S2.2.1 (k + j) b = S.2.1 (k + j) b) (t1 : ∀ c, 625 ≤ c → c ≤ 632 → c ≠ 627 → T2.1 c (3840 + m) = T.1 c (3840 + m)) (t2 : ∀ c, 633 ≤ c → c ≤ 634 → T2.2.1 c (3840 + m) = T.2.1 c (3840 + m)) (l1 : T.1 625 (3840 + m) = 18 → lnk N2 cl2 φ2 (T2.1 627 (3840 + m)) (S2.1 (k + 5) (ψ m))) (l2 : T.1 625 (3840 + m) ≠ 18 → lnk N2 cl2 ψ2 (T2.1 627 (3840 + m)) (S2.1 (k + 5) (ψ m))) : NR k N2 M2 cl2 φ2 ψ2 own2 S2 T2 m := by
  obtain ⟨⟨h1, h2, h3, h4⟩, h5, h6, h7⟩ := h
  unfold NR
  rw [hφ m hm hcm, hψ m hm hcm]
  refine ⟨⟨by omega, by omega, by rw [ho _ h1]; exact h3, by rw [ho _ h2]; exact h4⟩, KD_c h5 (fun j a b => s1 _ j h1 h3 a (by omega) (by omega)) (fun j a b => s2 _ j h1 h3 a b) t1 t2, rpt_c h6 hM ho ⟨h1, h3⟩ ⟨h2, h4⟩ s1 t1, ?_⟩
  rw [t1 625 (by omega) (by omega) (by omega), t1 626 (by omega) (by omega) (by omega), s1 _ 4 h1 h3 (by omega) (by omega) (by omega)]
  rcases h7 with ⟨a, b, c⟩ | ⟨a, b, c⟩
  · exact Or.inl ⟨a, lnk_c b hN hc hψ, l1 a⟩
  · exact Or.inr ⟨a, lnk_c b hN hc hφ, l2 a⟩
/-- nothing of this node is changed -/
theorem NR_c (h : NR k N M cl φ ψ own S T m) (hm : m < N) (hcm : cl m) (hN : N ≤ N2) (hM : M ≤ M2) (hc : ∀ t, t < N → (cl2 t ↔ cl t)) (hφ : ∀ t, t < N → cl t → φ2 t = φ t) (hψ : ∀ t, t < N → cl t → ψ2 t = ψ t) (ho : ∀ b, b < M → own2 b = own b) (s1 : ∀ b j, b < M → own b = m → 1 ≤ j → j ≤ 5 → S2.1 (k + j) b = S.1 (k + j) b) (s2 : ∀ b j, b < M → own b = m → 8 ≤ j → j ≤ 9 → S2.2.1 (k + j) b = S.2.1 (k + j) b) (t1 : ∀ c, 625 ≤ c → c ≤ 632 → T2.1 c (3840 + m) = T.1 c (3840 + m)) (t2 : ∀ c, 633 ≤ c → c ≤ 634 → T2.2.1 c (3840 + m) = T.2.1 c (3840 + m)) : NR k N2 M2 cl2 φ2 ψ2 own2 S2 T2 m := by
  have h0 := h
  obtain ⟨⟨h1, h2, h3, h4⟩, h5, h6, h7⟩ := h
  refine NR_n h0 hm hcm hN hM hc hφ hψ ho (fun b j a1 a2 a3 a4 _ => s1 b j a1 a2 a3 a4) s2 (fun c a b _ => t1 c a b) t2 (fun e => ?_) (fun e => ?_)
  · rw [t1 627 (by omega) (by omega), s1 _ 5 h2 h4 (by omega) (by omega)]
    rcases h7 with ⟨a, b, c⟩ | ⟨a, b, c⟩
    · exact lnk_c c hN hc hφ
    · exact absurd e a
  · rw [t1 627 (by omega) (by omega), s1 _ 5 h2 h4 (by omega) (by omega)]
    rcases h7 with ⟨a, b, c⟩ | ⟨a, b, c⟩
    · exact absurd a e
    · exact lnk_c c hN hc hψ
end NREL
