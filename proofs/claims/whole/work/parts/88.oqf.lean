/-! SEARCH: HSIM, given the potential -/
section OQF
variable {Q k p N M m n w len x g b i : Nat} {φ ψ own up lo : Nat → Nat} {S S1 S2 T T1 T2 U : ev_St} {c f y : Int}
/-- the buffers' characters are signs -/
def SG (S : ev_St) : Prop := ∀ b : Nat, b < 3 → ∀ i : Nat, (i : Int) < S.1 (263 + 2 * b) 1 → sp_sign (S.1 (263 + 2 * b + 1) i) = 1
theorem SG_F {W : Nat → Nat → Prop} (h : SG S) (hf : sp_F W S S2) (hw : ∀ b, b < 3 → ¬ W (263 + 2 * b) 1 ∧ ∀ g, ¬ W (263 + 2 * b + 1) g) : SG S2 := fun b hb i hi => by
  rw [hf.1 _ _ (hw b hb).1] at hi
  rw [hf.1 _ _ ((hw b hb).2 i)]
  exact h b hb i hi
def SB0 (U : ev_St) (w len : Nat) (S T : ev_St) : Prop := CLs U S ∧ RFs U T ∧ T.1 621 73 = (len : Int) ∧ ∀ i, i < len → T.1 678 i = U.1 (w + 1) i
def SR0 (U : ev_St) (k w len : Nat) (S T : ev_St) : Prop := SB0 U w len S T ∧ (S.2.2.1 281 0 = k + 1 ∧ S.2.2.1 281 1 = w + 1) ∧ (∃ n : Nat, n ≤ 1000 ∧ S.1 281 14 = (n : Int) ∧ T.1 621 75 = (n : Int)) ∧ S.1 281 10 = 0 ∧ T.1 621 76 = 0
theorem CLs_w {j : Nat} (h : CLs U S) : CLs U (ev_pI S 281 j y) := ⟨fun c g y1 y2 => by rw [rd_nk (by omega)]; exact h.1 c g y1 y2, h.2.1, h.2.2⟩
theorem CLs_r {j r : Nat} (h : CLs U S) : CLs U (ev_pR S 281 j r) := ⟨h.1, h.2.1, fun c g y => by
  show (if c = 281 ∧ g = j then r else S.2.2.1 c g) = _
  rw [if_neg (by omega)]
  exact h.2.2 c g y⟩
theorem RFs_w {j : Nat} (h : RFs U T) (hj : 73 ≤ j ∧ j ≤ 105) : RFs U (ev_pI T 621 j y) := ⟨fun c g y1 y2 y3 y4 => by rw [sp_pI1, if_neg (by omega)]; exact h.1 c g y1 y2 y3 y4, h.2⟩
theorem run_fr (h1 : jm_122 Q c S = some (f, S2)) (h2 : CLs U S) : CLs U S2 ∧ ∀ g, S2.2.2.1 281 g = S.2.2.1 281 g := by
  obtain ⟨a1, a2, a3, a4⟩ := (ef_122 (Q := Q) (S := S)) _ _ h1
  have e1 : ∀ c g, ¬ (281 ≤ c ∧ c ≤ 283) → S2.1 c g = S.1 c g := fun c g y => a1 c g (wm_by (C := fun c => decide (281 ≤ c ∧ c ≤ 283)) (D := fun _ _ => false) (by decide) (decide_eq_false y) rfl)
  have e2 : ∀ c g, S2.2.1 c g = S.2.1 c g := fun c g => a2 c g (wm_by (C := fun _ => false) (D := fun _ _ => false) (by decide) rfl rfl)
  have e3 : ∀ c g, S2.2.2.1 c g = S.2.2.1 c g := fun c g => a3 c g (wm_by (C := fun _ => false) (D := fun _ _ => false) (by decide) rfl rfl)
  exact ⟨⟨fun c g y1 y2 => by rw [e1 c g y2]; exact h2.1 c g y1 y2, fun c g y => by rw [e2]; exact h2.2.1 c g y, fun c g y => by rw [e3]; exact h2.2.2 c g y⟩, fun g => e3 _ _⟩
theorem ref_fr (h1 : jm_306 Q c y T = some (f, T2)) (h2 : RFs U T) : RFs U T2 ∧ T2.1 621 73 = T.1 621 73 ∧ ∀ g, T2.1 678 g = T.1 678 g := by
  obtain ⟨a1, a2, a3, a4⟩ := (ef_306 (Q := Q) (S := T)) _ _ h1
  have e1 : ∀ c g, ¬ (681 ≤ c ∧ c ≤ 699) → ¬ (c = 621 ∧ 74 ≤ g ∧ g ≤ 105) → T2.1 c g = T.1 c g := fun c g y z => a1 c g (wm_by (C := fun c => decide (681 ≤ c ∧ c ≤ 699)) (D := fun c g => decide (c = 621 ∧ 74 ≤ g ∧ g ≤ 105)) (by decide) (decide_eq_false y) (decide_eq_false z))
  have e2 : ∀ c g, T2.2.1 c g = T.2.1 c g := fun c g => a2 c g (wm_by (C := fun _ => false) (D := fun _ _ => false) (by decide) rfl rfl)
  exact ⟨⟨fun c g y1 y2 y3 y4 => by rw [e1 c g (by omega) (by omega)]; exact h2.1 c g y1 y2 y3 y4, fun c g y => by rw [e2]; exact h2.2 c g y⟩, e1 _ _ (by omega) (by omega), fun g => e1 _ _ (by omega) (by omega)⟩
theorem HSIM_of (hK : sp_PT U) (hB : sp_BR U) (hG : SG U) (hQ : 40000000000 ≤ Q) (hP : ∀ k p N M φ ψ own up lo len, STA k p N M φ ψ own up lo U → len ≤ 160 → POTX p N U len) : HSIM Q U := fun p b len hp hb hl => by
  have hp2 : p < 12 := by have := hK.1; omega
  obtain ⟨N, M, φ, ψ, own, up, lo, hA⟩ := STA_of (hK.2 p hp) hp2 rfl
  obtain ⟨b1, b2, b3, b4⟩ := hB b hb
  have hlen : len ≤ 160 := by omega
  obtain ⟨V, v1, v2⟩ := hP _ p N M φ ψ own up lo len hA hlen
  obtain ⟨k, hk⟩ : ∃ k, k = 313 + 20 * p := ⟨_, rfl⟩
  obtain ⟨w, hw⟩ : ∃ w, w = 263 + 2 * b := ⟨_, rfl⟩
  have sg := hG b hb
  rw [← hw] at hl b4 sg ⊢
  rw [← hk] at hA ⊢
  have hob : ev_isOb w 10 = true := by rw [hw]; exact sp_buf b hb
  have hX : FIX Q k p N M φ ψ own up lo U w len 980 V := ⟨hA, v1, ⟨hob, sp_len_text hob, by omega, hl, hlen, fun i hi => sg i (by omega)⟩, Int.le_refl _, by omega⟩
  refine ⟨SB0 U w len, SR0 U k w len, ⟨fun S T h => ⟨h.1, ?_, h.2.1.2⟩, fun S T h => ⟨?_, h.2.2.1⟩, fun S T T2 h e1 e2 => ⟨h.1, ⟨fun c g y1 y2 y3 y4 => ?_, fun c g y => ?_⟩, ?_, fun i hi => ?_⟩, fun S T h => ⟨⟨CLs_w (CLs_w (CLs_r (CLs_r h.1))), RFs_w (RFs_w h.2.1 (by omega)) (by omega), ?_, fun i hi => ?_⟩, ⟨?_, ?_⟩, ⟨0, Nat.zero_le _, ?_, ?_⟩, ?_, ?_⟩, fun S T x h hx hx2 => ?_⟩, fun S T h1 h2 h3 h4 => ⟨h1, h2, h3, fun i hi => ?_⟩⟩
  · obtain ⟨n, _, y1, y2⟩ := h.2.2.1
    omega
  · rw [h.1.1 w 1 (by omega) (by omega)]
    exact hl
  · rw [e1 c g (by omega) (by omega)]
    exact h.2.1.1 c g y1 y2 y3 y4
  · rw [e2]
    exact h.2.1.2 c g y
  · rw [e1 _ _ (by decide) (by decide)]
    exact h.2.2.1
  · rw [e1 _ _ (by decide) (by decide)]
    exact h.2.2.2 i hi
  · rw [sp_pI1, if_neg (by omega), sp_pI1, if_neg (by omega)]
    exact h.2.2.1
  · rw [rd_nk (by decide), rd_nk (by decide)]
    exact h.2.2.2 i hi
  · rfl
  · rfl
  · rfl
  · rfl
  · rfl
  · rfl
  · obtain ⟨⟨h1, h2, h3, h4⟩, h5, ⟨n, n1, n2, n3⟩, h6, h7⟩ := h
    obtain ⟨x, rfl⟩ : ∃ y : Nat, x = (y : Int) := ⟨x.toNat, by omega⟩
    obtain ⟨rc, rr, S2, T2, g1, g2, g3⟩ := place_go (x := x) hX v2 hQ h1 h2 h5 ⟨h3, h4⟩ n1 h6 n2 n3 h7 (by omega)
    obtain ⟨f1, f2⟩ := run_fr g1 h1
    obtain ⟨f3, f4, f5⟩ := ref_fr g2 h2
    have hb2 : SB0 U w len S2 T2 := ⟨f1, f3, by rw [f4]; exact h3, fun i hi => by rw [f5]; exact h4 i hi⟩
    refine ⟨rc, rr, S2, T2, g1, g2, ?_⟩
    rcases g3 with ⟨y1, y2⟩ | ⟨y1, y2, y3, y4⟩
    · exact Or.inl ⟨y1, y2, hb2⟩
    · exact Or.inr ⟨y1, ⟨hb2, ⟨by rw [f2]; exact h5.1, by rw [f2]; exact h5.2⟩, y3, y1, y2⟩, y4⟩
  · rw [h4 i hi]
    exact (b4 i (by omega)).1
end OQF
