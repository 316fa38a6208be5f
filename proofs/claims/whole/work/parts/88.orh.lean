/-! STREAMS: the reference's ends, all of them -/
section ORH
variable {Q p i n m : Nat} {S U V W : ev_St} {G G2 : Nat → Prop} {x2 x11 l : Int} {JJ K30 K42 : Int → ev_St → Option (Unit × ev_St)}
def FRn3 (U V : ev_St) : Prop := (∀ c i, c ≠ 673 → V.1 c i = U.1 c i) ∧ V.2 = U.2
theorem FRn3_r : FRn3 S S := ⟨fun _ _ _ => rfl, rfl⟩
theorem FRn3_t (h : FRn3 S U) (h2 : FRn3 U V) : FRn3 S V := ⟨fun x i z => (h2.1 x i z).trans (h.1 x i z), h2.2.trans h.2⟩
theorem FRn3_w {a : Nat} {v : Int} : FRn3 S (ev_pI S 673 a v) := ⟨fun x i z => ev_pI_ne z, rfl⟩
theorem enQ_n (hi : i < 209) (hb : enB p i U) (h : ∀ j, j < 210 → G j → G2 j) (z : enQ G p i U) : enQ G2 p i U := by
  rcases z with a | ⟨a, b, c⟩ | ⟨a, c⟩ | ⟨a, c⟩ | ⟨a, c⟩
  · exact Or.inl a
  · exact Or.inr (Or.inl ⟨a, b, h _ (by omega) c⟩)
  · exact Or.inr (Or.inr (Or.inl ⟨a, h _ (by omega) c⟩))
  · have := hb.2.1 a
    exact Or.inr (Or.inr (Or.inr (Or.inl ⟨a, h _ (by omega) c⟩)))
  · have := hb.2.2 a
    exact Or.inr (Or.inr (Or.inr (Or.inr ⟨a, h _ (by omega) c⟩)))
theorem enB_c (h : FRn3 S U) (hb : enB p i S) : enB p i U := by
  unfold enB
  rw [h.1 662 _ (by decide), h.1 663 _ (by decide), h.1 664 _ (by decide)]
  exact hb
theorem enQ_F (h : FRn3 S U) : enQ G p i U ↔ enQ G p i S := enQ_c (fun c hc => h.1 c _ (by omega)) (by rw [h.2])
theorem ctL_m {f g : Nat → Int} : ∀ m, (∀ j, j < m → f j ≠ 0 → g j ≠ 0) → ctL f m ≤ ctL g m := fun m => by
  induction m with
  | zero => exact fun _ => Nat.le_refl _
  | succ m ih =>
    intro h
    have i := ih (fun j hj => h j (by omega))
    show ctL f m + (if f m = 0 then 0 else 1) ≤ ctL g m + (if g m = 0 then 0 else 1)
    by_cases z : f m = 0
    · rw [if_pos z]
      omega
    · rw [if_neg z, if_neg (h m (by omega) z)]
      omega
theorem ctL_a {f : Nat → Int} : ∀ m, m ≤ ctL f m → ∀ j, j < m → f j ≠ 0 := fun m => by
  induction m with
  | zero => exact fun _ j hj => absurd hj (Nat.not_lt_zero j)
  | succ m ih =>
    intro h j hj
    have h' : m + 1 ≤ ctL f m + (if f m = 0 then 0 else 1) := h
    have l := ctL_le (f := f) m
    by_cases z : f m = 0
    · rw [if_pos z] at h'
      omega
    · rw [if_neg z] at h'
      by_cases e : j = m
      · rw [e]
        exact z
      · exact ih (by omega) j (by omega)
theorem en_sweep (hp : p < 12) (hB : ∀ i, i < 210 → enB p i S) (h5 : S.1 665 p ≤ 208) : ∀ m q U, m < q → m ≤ 210 → FRn3 S U → (∀ j, j < 210 → enN U j → U.1 673 j = 1) → ∃ V, jl_316_42 Q (p : Int) (210 * (p : Int)) x11 K30 q ((m : Int) - 1) U = ev_ck (x11 + 1) (fun x28 => K30 x28 V) ∧ FRn3 S V ∧ (∀ G : Nat → Prop, (∀ a : Nat, a < 210 → (a : Int) ≤ S.1 665 p → enQ G p a S → G a) → (∀ j, j < 210 → enN U j → G j) → ∀ j, j < 210 → enN V j → G j) ∧ (∀ j, j < 210 → enN V j → V.1 673 j = 1) ∧ ctL (U.1 673) 210 ≤ ctL (V.1 673) 210 ∧ (ctL (V.1 673) 210 = ctL (U.1 673) 210 → (∀ j, V.1 673 j = U.1 673 j) ∧ ∀ a : Nat, a < m → (a : Int) ≤ S.1 665 p → enQ (enN U) p a S → enN U a) := fun m => by
  induction m with
  | zero =>
    intro q U hq hm hF h1
    obtain ⟨q, rfl⟩ : ∃ r, q = r + 1 := ⟨q - 1, by omega⟩
    refine ⟨U, ?_, hF, fun G _ h => h, h1, Nat.le_refl _, fun _ => ⟨fun _ => rfl, fun a ha => absurd ha (Nat.not_lt_zero a)⟩⟩
    show jb_316_42 _ _ _ _ _ _ _ _ = _
    rw [jb316, if_pos (by omega)]
  | succ m ih =>
    intro q U hq hm hF h1
    obtain ⟨q, rfl⟩ : ∃ r, q = r + 1 := ⟨q - 1, by omega⟩
    have hd : jl_316_42 Q (p : Int) (210 * (p : Int)) x11 K30 (q + 1) (((m + 1 : Nat) : Int) - 1) U = jb_316_42 Q (p : Int) (210 * (p : Int)) x11 K30 (jl_316_42 Q (p : Int) (210 * (p : Int)) x11 K30 q) (m : Int) U := by
      rw [show ((m + 1 : Nat) : Int) - 1 = (m : Int) from by omega]
      rfl
    obtain ⟨v, hv, ht⟩ := en_turn (Q := Q) (x11 := x11) (K30 := K30) (i := m) (by omega) hp (enB_c hF (hB m (by omega)))
    have r5 : U.1 665 p = S.1 665 p := hF.1 _ _ (by decide)
    obtain ⟨W, hW⟩ : ∃ W, W = ev_pI U 673 m v := ⟨_, rfl⟩
    have fW : FRn3 S W := by
      rw [hW]
      exact FRn3_t hF FRn3_w
    have same : U.1 673 m = v → ∀ j, W.1 673 j = U.1 673 j := fun e j => by
      rw [hW, sp_pI1]
      by_cases z : j = m
      · rw [z, if_pos ⟨rfl, rfl⟩, e]
      · rw [if_neg (fun y => z y.2)]
    have wo : ∀ j, j ≠ m → W.1 673 j = U.1 673 j := fun j hj => by
      rw [hW]
      exact ev_pI_ne2 hj
    have wm : W.1 673 m = v := by
      rw [hW]
      exact ev_pI_eq
    have go : ∀ j, j < 210 → enN W j → W.1 673 j = 1 := fun j hj z => by
      by_cases e : j = m
      · subst e
        unfold enN at z
        rw [wm] at z ⊢
        omega
      · unfold enN at z
        rw [wo j e] at z ⊢
        exact h1 j hj z
    obtain ⟨V, a1, a2, a3, a4, a5, a6⟩ := ih q W (by omega) (by omega) fW go
    refine ⟨V, ?_, a2, fun G hG hs => a3 G hG (fun j hj z => ?_), a4, ?_, fun e => ?_⟩
    · rw [hd, ht, ← hW, a1]
    · by_cases e : j = m
      · subst e
        unfold enN at z
        rw [wm] at z
        rcases hv with ⟨_, y | ⟨y1, y2⟩⟩ | ⟨y, _⟩
        · exact hs j hj y
        · rw [r5] at y1
          exact hG j hj y1 (enQ_n (by omega) (hB j hj) hs ((enQ_F hF).mp y2))
        · exact absurd y z
      · unfold enN at z
        rw [wo j e] at z
        exact hs j hj z
    · by_cases z : U.1 673 m = v
      · rw [ctL_c 210 (fun j _ => same z j)] at a5
        exact a5
      · have z0 : U.1 673 m = 0 := Classical.byContradiction fun y => by
          have := h1 m (by omega) y
          rcases hv with ⟨y1, _⟩ | ⟨_, y2⟩
          · exact z (this.trans y1.symm)
          · exact y2 (Or.inl y)
        have := ctL_s (f := U.1 673) (f' := W.1 673) z0 (by rw [wm]; omega) wo 210 (by omega)
        omega
    · by_cases z : U.1 673 m = v
      · have cc := ctL_c 210 (fun j _ => same z j)
        rw [← cc] at e
        obtain ⟨b1, b2⟩ := a6 e
        have eN : enN W = enN U := funext fun j => by
          unfold enN
          rw [same z j]
        rw [eN] at b2
        refine ⟨fun j => (b1 j).trans (same z j), fun a ha h6 hQ => ?_⟩
        by_cases ea : a = m
        · subst ea
          rcases hv with ⟨y, _⟩ | ⟨_, y2⟩
          · unfold enN
            rw [z, y]
            decide
          · exact absurd (Or.inr ⟨by rw [r5]; exact h6, (enQ_F hF).mpr hQ⟩) y2
        · exact b2 a (by omega) h6 hQ
      · have z0 : U.1 673 m = 0 := Classical.byContradiction fun y => by
          have := h1 m (by omega) y
          rcases hv with ⟨y1, _⟩ | ⟨_, y2⟩
          · exact z (this.trans y1.symm)
          · exact y2 (Or.inl y)
        have := ctL_s (f := U.1 673) (f' := W.1 673) z0 (by rw [wm]; omega) wo 210 (by omega)
        omega
theorem en_all (hp : p < 12) (hB : ∀ i, i < 210 → enB p i S) (h5 : S.1 665 p ≤ 208) (hQ : 300 ≤ Q) : ∀ t q U, t < q → t ≤ 210 → FRn3 S U → (∀ j, j < 210 → enN U j → U.1 673 j = 1) → (210 - t ≤ ctL (U.1 673) 210 ∨ ∀ a : Nat, a < 210 → (a : Int) ≤ S.1 665 p → enQ (enN U) p a S → enN U a) → ∃ V, jl_316_30 Q (p : Int) (210 * (p : Int)) q ((210 - t : Nat) : Int) U = some ((), V) ∧ FRn3 S V ∧ (∀ G : Nat → Prop, (∀ a : Nat, a < 210 → (a : Int) ≤ S.1 665 p → enQ G p a S → G a) → (∀ j, j < 210 → enN U j → G j) → ∀ j, j < 210 → enN V j → G j) ∧ ∀ a : Nat, a < 210 → (a : Int) ≤ S.1 665 p → enQ (enN V) p a S → enN V a := fun t => by
  induction t with
  | zero =>
    intro q U hq ht hF h1 hc
    obtain ⟨q, rfl⟩ : ∃ r, q = r + 1 := ⟨q - 1, by omega⟩
    refine ⟨U, ?_, hF, fun G _ h => h, fun a ha h6 h7 => ?_⟩
    · show jb_316_30 _ _ _ _ _ _ = _
      unfold jb_316_30
      rw [if_pos (by omega)]
    · rcases hc with y | y
      · exact ctL_a 210 (by omega) a ha
      · exact y a ha h6 h7
  | succ t ih =>
    intro q U hq ht hF h1 hc
    obtain ⟨q, rfl⟩ : ∃ r, q = r + 1 := ⟨q - 1, by omega⟩
    obtain ⟨V, a1, a2, a3, a4, a5, a6⟩ := en_sweep (Q := Q) (x11 := ((210 - (t + 1) : Nat) : Int)) (K30 := jl_316_30 Q (p : Int) (210 * (p : Int)) q) hp hB h5 210 Q U (by omega) (by omega) hF h1
    have hd : jl_316_30 Q (p : Int) (210 * (p : Int)) (q + 1) ((210 - (t + 1) : Nat) : Int) U = jl_316_42 Q (p : Int) (210 * (p : Int)) ((210 - (t + 1) : Nat) : Int) (jl_316_30 Q (p : Int) (210 * (p : Int)) q) Q 209 U := by
      show jb_316_30 _ _ _ _ _ _ = _
      unfold jb_316_30
      rw [if_neg (by omega)]
    rw [show ((210 : Nat) : Int) - 1 = 209 from rfl] at a1
    obtain ⟨X, b1, b2, b3, b4⟩ := ih q V (by omega) (by omega) a2 a4 (by
      by_cases e : ctL (V.1 673) 210 = ctL (U.1 673) 210
      · obtain ⟨c1, c2⟩ := a6 e
        have eN : enN V = enN U := funext fun j => by
          unfold enN
          rw [c1 j]
        refine Or.inr ?_
        rw [eN]
        exact c2
      · rcases hc with y | y
        · exact Or.inl (by omega)
        · have := ctL_m (f := V.1 673) (g := U.1 673) 210 (fun j hj z => a3 (enN U) y (fun _ _ h => h) j hj z)
          omega)
    refine ⟨X, ?_, b2, fun G hG hs => b3 G hG (a3 G hG hs), b4⟩
    rw [hd, a1, sp_ck (by omega), show ((210 - (t + 1) : Nat) : Int) + 1 = ((210 - t : Nat) : Int) from by omega, b1]
theorem en_clr : ∀ (t q i : Nat) (U : ev_St), t < q → i + t = 210 → (∀ j, j < i → U.1 673 j = 0) → FRn3 S U → ∃ V, jl_316_8 Q (p : Int) q (210 * (p : Int)) (i : Int) U = jl_316_30 Q (p : Int) (210 * (p : Int)) Q 0 V ∧ FRn3 S V ∧ ∀ j, j < 210 → V.1 673 j = 0 := fun t => by
  have l73 := al_en.2.2.2.2.1
  induction t with
  | zero =>
    intro q i U hq hi h0 hF
    obtain ⟨q, rfl⟩ : ∃ r, q = r + 1 := ⟨q - 1, by omega⟩
    refine ⟨U, ?_, hF, fun j hj => h0 j (by omega)⟩
    show jb_316_8 _ _ _ _ _ _ = _
    unfold jb_316_8
    rw [if_pos (by omega)]
  | succ t ih =>
    intro q i U hq hi h0 hF
    obtain ⟨q, rfl⟩ : ∃ r, q = r + 1 := ⟨q - 1, by omega⟩
    obtain ⟨V, a1, a2, a3⟩ := ih q (i + 1) (ev_pI U 673 i 0) (by omega) (by omega) (fun j hj => by
      by_cases e : j = i
      · rw [e, ev_pI_eq]
      · rw [ev_pI_ne2 e]
        exact h0 j (by omega)) (FRn3_t hF FRn3_w)
    refine ⟨V, ?_, a2, a3⟩
    show jb_316_8 _ _ _ _ _ _ = _
    unfold jb_316_8
    rw [if_neg (by omega), sp_if (by rw [l73]; omega), sp_b, Int.toNat_natCast, sp_ck (by omega), show (i : Int) + 1 = ((i + 1 : Nat) : Int) from by omega, a1]
/-- the reference's ends are what leads on to an end -/
theorem sp_316 (hp : p < 12) (hB : ∀ i, i < 210 → enB p i S) (h5 : S.1 665 p ≤ 208) (hQ : 300 ≤ Q) : ∃ V, jm_316 Q (p : Int) S = some ((), V) ∧ FRn3 S V ∧ (∀ G : Nat → Prop, (∀ a : Nat, a < 210 → (a : Int) ≤ S.1 665 p → enQ G p a S → G a) → ∀ j, j < 210 → enN V j → G j) ∧ ∀ a : Nat, a < 210 → (a : Int) ≤ S.1 665 p → enQ (enN V) p a S → enN V a := by
  obtain ⟨U, a1, a2, a3⟩ := en_clr (Q := Q) (p := p) 210 Q 0 S (by omega) (by omega) (fun j hj => absurd hj (Nat.not_lt_zero j)) FRn3_r
  obtain ⟨V, b1, b2, b3, b4⟩ := en_all (Q := Q) hp hB h5 hQ 210 Q U (by omega) (by omega) a2 (fun j hj z => absurd (a3 j hj) z) (Or.inl (by omega))
  refine ⟨V, ?_, b2, fun G hG => b3 G hG (fun j hj z => absurd (a3 j hj) z), b4⟩
  unfold jm_316
  rw [sp_ck (by omega), show (0 : Int) = ((0 : Nat) : Int) from rfl, a1]
  exact b1
end ORH
