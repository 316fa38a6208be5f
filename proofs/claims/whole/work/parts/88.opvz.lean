/-! THE READER: a reading, on both sides -/
section RDAL
variable {Q k n m w d N M D lv t : Nat} {φ ψ own up inn G R ws y rk : Nat → Nat} {S O T S0 T0 S1 S' S2 T' T2 T1 T3 U : ev_St} {Z : Nat → Prop}
/-- the texts are alike -/
def TXe (S S2 : ev_St) : Prop := ∀ x g, (x = 1 ∧ g = 1) ∨ x = 2 ∨ x = 5 ∨ (169 ≤ x ∧ x < 221) → S2.1 x g = S.1 x g
theorem sp_atX (h : TXe S S2) (hw : isTy w) : sp_at S2 w = sp_at S w ∧ S2.1 w 1 = S.1 w 1 := by
  have e1 : S2.1 w 1 = S.1 w 1 := by
    rcases hw with z | z
    · rw [z]
      exact h 1 1 (by omega)
    · exact h w 1 (by omega)
  refine ⟨funext fun p => ?_, e1⟩
  unfold sp_at
  rw [e1]
  have e2 : S2.1 (w + 1) p.toNat = S.1 (w + 1) p.toNat := by
    rcases hw with z | z
    · rw [z]
      exact h 2 _ (by omega)
    · exact h (w + 1) p.toNat (by omega)
  rw [e2]
theorem ZC_X {l : Nat} (h : TXe S S2) (hl : l < 26) : ZC Z S2 l ↔ ZC Z S l := by
  obtain ⟨a, b⟩ := sp_atX h (isTx_l hl)
  unfold ZC
  rw [a, b]
theorem RKP_X (h : TXe S S2) (hr : RKP rk S) : RKP rk S2 := fun l hl h5 m hm l' hl' hi => by
  obtain ⟨a, b⟩ := sp_atX h (isTx_l hl)
  rw [h 5 l (by omega)] at h5
  rw [a, b] at hm
  rw [a] at hi
  exact hr l hl h5 m hm l' hl' hi
/-- what the draft includes, and what that includes -/
def ZZ (Z : Nat → Prop) (a0 : Int) (S : ev_St) : Prop := (∀ l, Z l → l < 26 ∧ S.1 5 l = 1 ∧ (l : Int) ≠ a0 ∧ ZC Z S l) ∧ ∀ m, nxi (sp_at S 1) m < S.1 1 1 → ∀ l', l' < 26 → icl (sp_at S 1) (nxi (sp_at S 1) m) l' → Z l'
theorem rd_all {a2 a0 : Int} (hQ : 25000 ≤ Q) (hk : ev_isOb k 5 = true) (hkr : 232 ≤ k) (hD : DRx S T) (hP : PRx S T) (hr : RKP rk S) (ha : (a2 = -1 ∧ a0 = -1) ∨ (a2 = a0 + 97 ∧ 0 ≤ a0 ∧ a0 < 26)) : (∃ S' T', jm_83 Q 2 (k + 1) a2 S = some (0, S') ∧ jm_265 Q a0 T = some (-1, T') ∧ fr k S S' ∧ LOW T T') ∨ ∃ S' T' N M φ ψ own up Z, jm_83 Q 2 (k + 1) a2 S = some (1, S') ∧ jm_265 Q a0 T = some (S'.1 3 14, T') ∧ fr k S S' ∧ FINX k N M φ ψ own up S' T' ∧ (0 ≤ S'.1 3 14 ∧ S'.1 3 14 ≤ 150) ∧ TXe S S' ∧ (∀ x g, (x = 621 ∧ g = 1) ∨ (622 ≤ x ∧ x ≤ 624) → T'.1 x g = T.1 x g) ∧ LOW T T' ∧ ZZ Z a0 S := by
  obtain ⟨S1, s1, c1, c2, c3, c4, ⟨c5, c6, c7⟩, c8⟩ := start_C (Q := Q) (k := k) (S := S) (a2 := a2) (by omega) hk hkr
  obtain ⟨T1, t1, r1, r2, r3, r4, r5, r6, r7⟩ := start_R (Q := Q) (T := T) (a0 := a0) (by omega)
  obtain ⟨hI, hN⟩ := start_RI (k := k) (rk := rk) hkr hD hP ha c1 c2 c3 c4 ⟨c5, c6⟩ r1 r2 r3 r4 (fun x g h => r5 x g (by omega))
  have x1 : TXe S S1 := fun x g h => c4 x g (by omega) (by omega) (by omega) (by omega)
  have m0 : RM 0 (fun _ => 1) S1 T1 ≤ ((18420 : Nat) : Int) := by
    have z : rdr (fun i => S1.1 ((fun _ => 1) i) 1 - T1.1 645 i) 0 = S1.1 1 1 - T1.1 645 0 := rfl
    unfold RM
    rw [z, r2.2.2.2.2.2, r1.2.2.1, x1 1 1 (by omega)]
    have := hD.1
    omega
  -- what the class's reading leaves
  have hfr : ∀ (A : Int) (S' : ev_St), jl_83_59 Q Q 0 S1 = some (A, S') → fr k S S' := fun A S' h => by
    have base : fr k S S1 := ⟨fun c f hc => c4 c f (by unfold Wk at hc; omega) (by unfold Wk at hc; omega) (by unfold Wk at hc; omega) (by unfold Wk at hc; omega), fun c f _ => by rw [c8.1], fun c f hc _ _ => c7 c f hc, c8.2, c6⟩
    exact frl_83_59 Q 0 S1 base A S' h
  rcases rd_loop (Q := Q) (w0 := 1) (rk := rk) (by omega) hk hkr 18420 0 (fun _ => 1) (fun _ => False) S1 T1 Q Q 0 hI hN (RKP_X x1 hr) rfl m0 (by omega) (by omega) (by omega) (by omega) with ⟨S', T', a1, a3, al⟩ | ⟨ws', Z', S2, T2, a1, a3, a4, a5, a6, a7, a8⟩
  · exact Or.inl ⟨S', T', s1.trans a1, t1.trans a3, hfr 0 S' a1, LOW_t r7 al⟩
  · rcases rd_fin (Q := Q) (by omega) hk hkr a1 with ⟨S', T', b1, b2, bl⟩ | ⟨S', T', N, M, φ, ψ, own, up, b1, b2, b3, b4, b5⟩
    · exact Or.inl ⟨S', T', s1.trans (a7.trans b1), t1.trans (a8.trans b2), hfr 0 S' (a7.trans b1), LOW_t r7 (LOW_t a6.2.2 bl)⟩
    · have x2 : TXe S S2 := fun x g h => by rw [a6.1 x g (by unfold KT0; omega), x1 x g h]
      have x3 : TXe S S' := fun x g h => by rw [b5.1 x g (by unfold KT0; omega), x2 x g h]
      have t26 : T2.1 621 26 = a0 := by rw [a6.2.1 621 26 (by unfold KR0; omega), r1.1]
      refine Or.inr ⟨S', T', N, M, φ, ψ, own, up, Z', s1.trans (a7.trans b1), t1.trans (a8.trans b2), hfr 1 S' (a7.trans b1), b3, b4.2, x3, fun x g h => ?_, LOW_t r7 (LOW_t a6.2.2 b5.2.2), fun l hl => ?_, fun m hm l' hl' hi => ?_⟩
      · rw [b5.2.1 x g (by unfold KR0; omega), a6.2.1 x g (by unfold KR0; omega), r5 x g (by omega)]
      · obtain ⟨z1, z2, z3, z4⟩ := a3.2.1 l hl
        refine ⟨z1, by rw [← x2 5 l (by omega)]; exact z2, by rw [← t26]; exact z3, ?_⟩
        rcases z4 with ⟨i, i1, i2, _⟩ | z4
        · omega
        · exact (ZC_X x2 z1).mp z4
      · obtain ⟨n, n1, n2⟩ := a3.1 0 (Nat.le_refl _)
        obtain ⟨e1, e2⟩ := sp_atX x2 (Or.inl rfl : isTy 1)
        rw [a4, e1] at n1 n2
        rw [a4, e2] at a5
        refine n2 m ?_ l' hl' hi
        by_cases z : m < n
        · exact z
        · have := @nxi_mono (sp_at S 1) n m (by omega)
          omega
end RDAL
