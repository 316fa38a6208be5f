/-! THE READER: a reading as a whole -/
section RALL2
variable {Q k n m w d N M D lv t : Nat} {φ ψ own up inn G R ws y rk : Nat → Nat} {P q : Nat → Int} {S O T S0 T0 S1 S' S2 T' T2 T1 T3 U : ev_St} {Z : Nat → Prop}
/-- what a pattern that was read is, on both sides -/
def FINX (k N M : Nat) (φ ψ own up : Nat → Nat) (S T : ev_St) : Prop := (FIN k N M φ ψ own S T ∧ UPf k N M φ ψ own up S T ∧ LK2 N T ∧ RV N T ∧ TIE k N φ ψ up S T) ∧ (S.1 k 11 = (M : Int) ∧ M ≤ 400 ∧ T.1 635 12 = (N : Int) ∧ N ≤ 320) ∧ (S.1 k 12 = T.1 636 12 ∧ 0 ≤ T.1 636 12 ∧ T.1 636 12 ≤ 9) ∧ (∀ l, l < 26 → S.1 (k + 11) l = T.1 638 (312 + l) ∧ 0 ≤ T.1 638 (312 + l) ∧ T.1 638 (312 + l) ≤ T.1 636 12) ∧ (∀ j : Nat, 1 ≤ j → (j : Int) ≤ T.1 636 12 → ∃ t : Nat, T.1 637 (120 + j) = (t : Int) ∧ t < N ∧ T.1 625 (3840 + t) = 8 ∧ T.1 628 (3840 + t) = (j : Int) ∧ S.1 (k + 10) j = (φ t : Int)) ∧ (T.1 637 120 = 0 ∧ S.1 (k + 10) 0 = (φ 0 : Int)) ∧ (∀ m, m < N → (T.1 625 (3840 + m) = 7 → 1 ≤ T.1 628 (3840 + m) ∧ T.1 628 (3840 + m) ≤ 9) ∧ (T.1 625 (3840 + m) = 7 ∨ T.1 625 (3840 + m) = 13 ∨ T.1 625 (3840 + m) = 14 → T.1 628 (3840 + m) ≤ T.1 636 12)) ∧ ∃ y : Nat → Nat, (∀ m, m < N → T.1 625 (3840 + m) ≠ 18 → m ≠ 0 → y m + cst (T.1 625 (3840 + m)) ≤ 120) ∧ (∀ m t : Nat, m < N → T.1 625 (3840 + m) ≠ 18 → T.1 627 (3840 + m) = (t : Int) → t < N ∧ y m + cst (T.1 625 (3840 + m)) ≤ y t) ∧ ∃ lo : Nat → Nat, LOf N M φ ψ up lo T
/-- class's node of what tells a group -/
theorem tell_C (hF : FIN k N M φ ψ own S T) (hU : UPf k N M φ ψ own up S T) (hV : RV N T) {b : Nat} (hb : b < M) (hk : S.1 (k + 1) b = 7 ∨ S.1 (k + 1) b = 8 ∨ S.1 (k + 1) b = 9) : ∃ m, m < N ∧ m ≠ 0 ∧ b = φ m ∧ S.1 (k + 2) b = T.1 628 (3840 + m) ∧ (S.1 (k + 1) b = 7 ↔ T.1 625 (3840 + m) = 7) ∧ (T.1 625 (3840 + m) = 7 ∨ T.1 625 (3840 + m) = 13 ∨ T.1 625 (3840 + m) = 14) := by
  obtain ⟨oN, hb'⟩ := hU.2.2.1 b hb
  obtain ⟨m, hm⟩ : ∃ m, m = own b := ⟨_, rfl⟩
  rw [← hm] at oN hb'
  have e : b = φ m := by
    rcases rep_C hF hU oN with ⟨r1, r2⟩ | ⟨r1, r2, r3, r4, r5, r6, r7⟩ | ⟨r1, x, y, r2, r3, r4, r5, r6, ⟨r7, r8⟩, ⟨r9, r10, r11⟩, ⟨r12, r13, r14, r15, r16⟩, r17⟩
    · rcases hb' with z | z | z
      · exact z
      · rw [z, r2]
      · have := z.1
        omega
    · rcases hb' with z | z | z
      · exact z
      · rw [z] at hk
        omega
      · have := z.1
        omega
    · rcases hb' with z | z | z
      · exact z
      · rw [z] at hk
        omega
      · rcases z.2 with w | ⟨u, w1, w2⟩
        · have : b = x := by omega
          rw [this] at hk
          omega
        · have : u = x := by omega
          rw [this] at w2
          have : b = y := by omega
          rw [this] at hk
          omega
  have m0 : m ≠ 0 := fun z => by
    rw [e, z, hF.2.1.2.2.2.1] at hk
    omega
  have kd := (hF.1 m oN m0).2.1
  have kr := (hV.1 m oN).1.1
  rw [e] at hk ⊢
  rw [kd.1] at hk ⊢
  have hc : T.1 625 (3840 + m) = 7 ∨ T.1 625 (3840 + m) = 13 ∨ T.1 625 (3840 + m) = 14 := by
    generalize T.1 625 (3840 + m) = c at *
    unfold kcl at hk
    (repeat' split at hk) <;> omega
  refine ⟨m, oN, m0, rfl, kd.2.2.1 (by omega), ?_, hc⟩
  rcases hc with z | z | z <;> rw [z] <;> unfold kcl <;> simp
/-- both look alike for what is told -/
theorem ok_iff (hF : FIN k N M φ ψ own S T) (hU : UPf k N M φ ψ own up S T) (hV : RV N T) (h12 : S.1 k 12 = T.1 636 12) (hn : ∀ l, l < 26 → S.1 (k + 11) l = T.1 638 (312 + l)) : ((∀ b, b < M → okC k S b) ↔ ∀ m, m < N → okm T m) ∧ ∀ m, m < N → m ≠ 0 → (T.1 625 (3840 + m) = 7 ∨ T.1 625 (3840 + m) = 13 ∨ T.1 625 (3840 + m) = 14) → cnC k S (φ m) = ckn T m := by
  have k7 : ∀ c f : Int, (c = 7 ∨ c = 13 ∨ c = 14) → (kcl c f = 7 ↔ c = 7) ∧ (kcl c f = 7 ∨ kcl c f = 8 ∨ kcl c f = 9) := fun c f h => by
    rcases h with z | z | z <;> rw [z] <;> unfold kcl <;> simp
  have val : ∀ m, m < N → m ≠ 0 → (T.1 625 (3840 + m) = 7 ∨ T.1 625 (3840 + m) = 13 ∨ T.1 625 (3840 + m) = 14) → cnC k S (φ m) = ckn T m := fun m hm h0 hc => by
    have kd := (hF.1 m hm h0).2.1
    have e2 : S.1 (k + 2) (φ m) = T.1 628 (3840 + m) := kd.2.2.1 (by omega)
    have kk := k7 (T.1 625 (3840 + m)) (T.1 629 (3840 + m)) hc
    have v := (hV.1 m hm).1
    unfold cnC ckn
    rw [e2, kd.1]
    by_cases z : T.1 625 (3840 + m) = 7 ∧ T.1 628 (3840 + m) < 0
    · have := v.2.2.1 z.1
      rw [if_pos ⟨kk.1.mpr z.1, z.2⟩, if_pos z, hn _ (by omega), show 312 + (-T.1 628 (3840 + m) - 1).toNat = (311 - T.1 628 (3840 + m)).toNat from by omega]
    · rw [if_neg (fun w => z ⟨kk.1.mp w.1, w.2⟩), if_neg z]
  refine ⟨⟨fun h m hm => ?_, fun h b hb => ?_⟩, val⟩
  · by_cases hc : T.1 625 (3840 + m) = 7 ∨ T.1 625 (3840 + m) = 13 ∨ T.1 625 (3840 + m) = 14
    · have m0 : m ≠ 0 := fun e => by
        have := hF.2.2.2.1
        rw [e] at hc
        rw [show 3840 + 0 = 3840 from rfl] at hc
        omega
      have kd := (hF.1 m hm m0).2.1
      have kk := k7 (T.1 625 (3840 + m)) (T.1 629 (3840 + m)) hc
      have e2 : S.1 (k + 2) (φ m) = T.1 628 (3840 + m) := kd.2.2.1 (by omega)
      have q := h (φ m) (hF.1 m hm m0).1.1
      unfold okC at q
      rw [val m hm m0 hc] at q
      refine ⟨fun z => q.1 ⟨by rw [kd.1]; exact kk.1.mpr z.1, by rw [e2]; exact z.2⟩, fun _ => ?_⟩
      rw [← h12]
      exact q.2 (by rw [kd.1]; exact kk.2)
    · exact ⟨fun z => by omega, fun z => absurd z hc⟩
  · by_cases hk : S.1 (k + 1) b = 7 ∨ S.1 (k + 1) b = 8 ∨ S.1 (k + 1) b = 9
    · obtain ⟨m, h1, h2, h3, h4, h5, h6⟩ := tell_C hF hU hV hb hk
      have q := h m h1
      unfold okm at q
      rw [← val m h1 h2 h6, ← h3] at q
      exact ⟨fun z => q.1 ⟨h5.mp z.1, by rw [← h4]; exact z.2⟩, fun _ => by rw [h12]; exact q.2 h6⟩
    · exact ⟨fun z => by omega, fun z => absurd z hk⟩
end RALL2
