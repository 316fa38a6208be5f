/-! THE READER: the class's tree out of the tables -/
section RCTR
variable {Q k n m w d N M D lv t b : Nat} {S O S0 S1 S' S2 T U : ev_St} {φ ψ own up f pc : Nat → Nat}
/-- the class's node around a node -/
def pcF (k : Nat) (φ ψ own up : Nat → Nat) (S T : ev_St) (b : Nat) : Nat := if b = ψ (own b) then φ (up (own b)) else if T.1 630 (3840 + own b) = 2 then (if b = φ (own b) then (S.1 (k + 4) (S.1 (k + 4) (ψ (own b))).toNat).toNat else if b = (S.1 (k + 4) (S.1 (k + 4) (ψ (own b))).toNat).toNat then (S.1 (k + 4) (ψ (own b))).toNat else ψ (own b)) else ψ (own b)
theorem lnk_v {g : Nat → Nat} {x y : Int} (h : lnk N (fun t => t < N) g x y) : (x = -1 ∧ y = -1) ∨ ∃ t : Nat, x = (t : Int) ∧ t < N ∧ y = (g t : Int) := by
  rcases h with z | ⟨t, h1, h2, ⟨h3, _⟩ | ⟨_, h4⟩⟩
  · exact Or.inl z
  · exact absurd h2 h3
  · exact Or.inr ⟨t, h1, h2, h4⟩
/-- rows are not repeated -/
theorem row_e (hF : FIN k N M φ ψ own S T) (hL : LK2 N T) {m : Nat} (hm : m < N) (h18 : T.1 625 (3840 + m) = 18) : ψ m = φ m := by
  by_cases e : m = 0
  · rw [e]
    exact hF.2.1.2.1
  · have w0 := hL m hm h18
    rcases (hF.1 m hm e).2.2.1 with ⟨_, w⟩ | ⟨⟨w, _⟩, _⟩ | ⟨⟨w, _⟩, _⟩
    · exact w
    · omega
    · omega
/-- a node of the tables, in the class -/
theorem node_C (hF : FIN k N M φ ψ own S T) (hL : LK2 N T) (hv : ∀ m, m < N → RVl N T m) {m : Nat} (hm : m < N) : (φ m < M ∧ ψ m < M ∧ own (φ m) = m ∧ own (ψ m) = m) ∧ ((T.1 626 (3840 + m) = -1 ∧ S.1 (k + 4) (φ m) = -1) ∨ ∃ t : Nat, T.1 626 (3840 + m) = (t : Int) ∧ t < N ∧ m < t ∧ S.1 (k + 4) (φ m) = (ψ t : Int) ∧ (T.1 625 (3840 + t) = 18 ↔ T.1 625 (3840 + m) ≠ 18)) ∧ ((T.1 627 (3840 + m) = -1 ∧ S.1 (k + 5) (ψ m) = -1) ∨ ∃ t : Nat, T.1 627 (3840 + m) = (t : Int) ∧ t < N ∧ m < t ∧ S.1 (k + 5) (ψ m) = (ψ t : Int) ∧ (T.1 625 (3840 + t) = 18 ↔ T.1 625 (3840 + m) = 18)) := by
  have v := hv m hm
  have ch : ∀ t : Nat, T.1 626 (3840 + m) = (t : Int) → T.1 625 (3840 + m) ≠ 18 → φ t = ψ t := fun t ht h18 => (row_e hF hL (v.1 t (Or.inl ht)).2 ((v.2.1 t ht).mpr h18)).symm
  have cn : ∀ t : Nat, T.1 627 (3840 + m) = (t : Int) → T.1 625 (3840 + m) = 18 → φ t = ψ t := fun t ht h18 => (row_e hF hL (v.1 t (Or.inr ht)).2 ((v.2.2.1 t ht).mpr h18)).symm
  by_cases e : m = 0
  · subst e
    obtain ⟨_, ⟨a1, a2, a3, a4, a5, a6⟩, b1, b2, b3, b4, b5⟩ := hF
    refine ⟨⟨a1, by rw [a2]; exact a1, a3, by rw [a2]; exact a3⟩, ?_, Or.inl ⟨b4, by rw [a2]; exact a5⟩⟩
    rcases lnk_v a6 with z | ⟨t, t1, t2, t3⟩
    · exact Or.inl z
    · exact Or.inr ⟨t, t1, t2, (v.1 t (Or.inl t1)).1, by rw [t3, ch t t1 (by rw [show T.1 625 (3840 + 0) = 9 from b2]; decide)], v.2.1 t t1⟩
  · obtain ⟨c1, _, c3, c4⟩ := hF.1 m hm e
    rcases c4 with ⟨d1, d2, d3⟩ | ⟨d1, d2, d3⟩
    · have em := row_e hF hL hm d1
      refine ⟨c1, ?_, ?_⟩
      · rcases lnk_v d2 with z | ⟨t, t1, t2, t3⟩
        · exact Or.inl z
        · exact Or.inr ⟨t, t1, t2, (v.1 t (Or.inl t1)).1, t3, v.2.1 t t1⟩
      · rcases lnk_v d3 with z | ⟨t, t1, t2, t3⟩
        · exact Or.inl z
        · exact Or.inr ⟨t, t1, t2, (v.1 t (Or.inr t1)).1, by rw [t3, cn t t1 d1], v.2.2.1 t t1⟩
    · refine ⟨c1, ?_, ?_⟩
      · rcases lnk_v d2 with z | ⟨t, t1, t2, t3⟩
        · exact Or.inl z
        · exact Or.inr ⟨t, t1, t2, (v.1 t (Or.inl t1)).1, by rw [t3, ch t t1 d1], v.2.1 t t1⟩
      · rcases lnk_v d3 with z | ⟨t, t1, t2, t3⟩
        · exact Or.inl z
        · exact Or.inr ⟨t, t1, t2, (v.1 t (Or.inr t1)).1, t3, v.2.2.1 t t1⟩
/-- a repeat, in the class -/
theorem rep_C (hF : FIN k N M φ ψ own S T) (hU : UPf k N M φ ψ own up S T) {m : Nat} (hm : m < N) : (T.1 630 (3840 + m) = -1 ∧ ψ m = φ m) ∨ ((T.1 630 (3840 + m) = 0 ∨ T.1 630 (3840 + m) = 1) ∧ φ m < ψ m ∧ S.1 (k + 1) (ψ m) = 13 + T.1 630 (3840 + m) ∧ S.1 (k + 4) (ψ m) = (φ m : Int) ∧ S.1 (k + 2) (ψ m) = T.1 631 (3840 + m) ∧ S.1 (k + 3) (ψ m) = T.1 632 (3840 + m) ∧ S.1 (k + 5) (φ m) = -1) ∨ (T.1 630 (3840 + m) = 2 ∧ ∃ x y : Nat, φ m < y ∧ y < x ∧ x < ψ m ∧ own x = m ∧ own y = m ∧ (S.1 (k + 1) (ψ m) = 19 ∧ S.1 (k + 4) (ψ m) = (x : Int)) ∧ (S.1 (k + 1) x = 15 ∧ S.1 (k + 4) x = (y : Int) ∧ S.1 (k + 5) x = -1) ∧ (S.1 (k + 1) y = 13 ∧ S.1 (k + 4) y = (φ m : Int) ∧ S.1 (k + 2) y = T.1 631 (3840 + m) ∧ S.1 (k + 3) y = T.1 632 (3840 + m) ∧ S.1 (k + 5) y = -1) ∧ S.1 (k + 5) (φ m) = -1) := by
  have h7 := hU.2.2.2
  by_cases e : m = 0
  · subst e
    exact Or.inl ⟨hF.2.2.2.2.2.2, hF.2.1.2.1⟩
  · obtain ⟨⟨a1, a2, a3, a4⟩, _, c3, _⟩ := hF.1 m hm e
    rcases c3 with ⟨z1, z2⟩ | ⟨⟨z1, z2⟩, z3, z4, z5, z6, z7⟩ | ⟨⟨z1, z2⟩, x, y, ⟨x1, x2, x3, x4, x5, x6⟩, ⟨y1, y2⟩, ⟨w1, w2, w3⟩, ⟨v1, v2, v3, v4, v5⟩, u1⟩
    · exact Or.inl ⟨z1, z2⟩
    · have := h7 _ a2
      exact Or.inr (Or.inl ⟨z1, by omega, z3, z4, z5, z6, z7⟩)
    · have h1 := h7 _ a2
      have h2 := h7 _ x1
      have h3 := h7 _ x2
      exact Or.inr (Or.inr ⟨z1, x, y, by omega, by omega, by omega, x3, x4, ⟨y1, y2⟩, ⟨w1, w2, w3⟩, ⟨v1, v2, v3, v4, v5⟩, u1⟩)
theorem CTR_of (hF : FIN k N M φ ψ own S T) (hU : UPf k N M φ ψ own up S T) (hL : LK2 N T) (hv : ∀ m, m < N → RVl N T m) (h11 : S.1 k 11 = (M : Int)) (hM : M ≤ 400) (hN : N ≤ 320) : CTR k M (pcF k φ ψ own up S T) (fun b => N - own b) S := by
  have h7 := hU.2.2.2
  have nC := fun m hm => node_C (m := m) hF hL hv hm
  have rC := fun m hm => rep_C (m := m) hF hU hm
  -- what stands in a node
  have pψ : ∀ m, m < N → pcF k φ ψ own up S T (ψ m) = φ (up m) := fun m hm => by
    unfold pcF
    rw [(nC m hm).1.2.2.2, if_pos rfl]
  have all : ∀ b, b < M → (-1 ≤ S.1 (k + 4) b) ∧ (-1 ≤ S.1 (k + 5) b ∧ S.1 (k + 5) b < (M : Int)) ∧ (∀ c : Nat, S.1 (k + 4) b = (c : Int) → pcF k φ ψ own up S T c = b) ∧ ∀ c : Nat, S.1 (k + 5) b = (c : Int) → pcF k φ ψ own up S T c = pcF k φ ψ own up S T b ∧ N - own c < N - own b ∧ c < pcF k φ ψ own up S T c := fun b hb => by
    obtain ⟨oN, hb'⟩ := hU.2.2.1 b hb
    obtain ⟨m, hm⟩ : ∃ m, m = own b := ⟨_, rfl⟩
    rw [← hm] at oN hb'
    obtain ⟨⟨n1, n2, n3, n4⟩, n5, n6⟩ := nC m oN
    have rc := rC m oN
    -- the atom's child
    have chφ : (-1 ≤ S.1 (k + 4) (φ m)) ∧ ∀ c : Nat, S.1 (k + 4) (φ m) = (c : Int) → pcF k φ ψ own up S T c = φ m := by
      rcases n5 with ⟨_, z⟩ | ⟨t, t1, t2, t3, t4, _⟩
      · exact ⟨by omega, fun c hc => by omega⟩
      · refine ⟨by omega, fun c hc => ?_⟩
        have : c = ψ t := by omega
        rw [this, pψ t t2, hU.1.2.1 m t oN t1]
    -- the item's next
    have nxψ : (-1 ≤ S.1 (k + 5) (ψ m) ∧ S.1 (k + 5) (ψ m) < (M : Int)) ∧ ∀ c : Nat, S.1 (k + 5) (ψ m) = (c : Int) → pcF k φ ψ own up S T c = pcF k φ ψ own up S T (ψ m) ∧ N - own c < N - own (ψ m) ∧ c < pcF k φ ψ own up S T c := by
      rcases n6 with ⟨_, z⟩ | ⟨t, t1, t2, t3, t4, _⟩
      · exact ⟨by omega, fun c hc => by omega⟩
      · have nt := (nC t t2).1
        refine ⟨by omega, fun c hc => ?_⟩
        have : c = ψ t := by omega
        rw [this, pψ t t2, pψ m oN, hU.1.2.2.1 m t oN t1, nt.2.2.2, n4]
        refine ⟨rfl, by omega, ?_⟩
        have := hU.2.1 t t2 (by omega)
        rw [hU.1.2.2.1 m t oN t1] at this
        exact this
    rcases rc with ⟨r1, r2⟩ | ⟨r1, r2, r3, r4, r5, r6, r7⟩ | ⟨r1, x, y, r2, r3, r4, r5, r6, ⟨r7, r8⟩, ⟨r9, r10, r11⟩, ⟨r12, r13, r14, r15, r16⟩, r17⟩
    · have eb : b = φ m := by
        rcases hb' with z | z | z
        · exact z
        · rw [z, r2]
        · have := z.1
          omega
      rw [r2] at nxψ
      rw [eb]
      exact ⟨chφ.1, nxψ.1, chφ.2, nxψ.2⟩
    · rcases hb' with z | z | z
      · rw [z]
        exact ⟨chφ.1, by omega, chφ.2, fun c hc => by omega⟩
      · rw [z]
        refine ⟨by omega, nxψ.1, fun c hc => ?_, nxψ.2⟩
        have e : c = φ m := by omega
        rw [e]
        unfold pcF
        rw [n3, if_neg (by omega), if_neg (by omega)]
      · have := z.1
        omega
    · have px : pcF k φ ψ own up S T x = ψ m := by
        unfold pcF
        rw [r5, if_neg (by omega), if_pos r1, r8, Int.toNat_natCast, r10, Int.toNat_natCast, if_neg (by omega), if_neg (by omega)]
      have py : pcF k φ ψ own up S T y = x := by
        unfold pcF
        rw [r6, if_neg (by omega), if_pos r1, r8, Int.toNat_natCast, r10, Int.toNat_natCast, if_neg (by omega), if_pos rfl]
      have pa : pcF k φ ψ own up S T (φ m) = y := by
        unfold pcF
        rw [n3, if_neg (by omega), if_pos r1, r8, Int.toNat_natCast, r10, Int.toNat_natCast, if_pos rfl]
      have hb2 : b = φ m ∨ b = ψ m ∨ b = x ∨ b = y := by
        rcases hb' with z | z | z
        · exact Or.inl z
        · exact Or.inr (Or.inl z)
        · rcases z.2 with w | ⟨u, w1, w2⟩
          · exact Or.inr (Or.inr (Or.inl (by omega)))
          · have : u = x := by omega
            rw [this] at w2
            exact Or.inr (Or.inr (Or.inr (by omega)))
      rcases hb2 with z | z | z | z
      · rw [z]
        exact ⟨chφ.1, by omega, chφ.2, fun c hc => by omega⟩
      · rw [z]
        refine ⟨by omega, nxψ.1, fun c hc => ?_, nxψ.2⟩
        have e : c = x := by omega
        rw [e, px]
      · rw [z]
        refine ⟨by omega, by omega, fun c hc => ?_, fun c hc => by omega⟩
        have e : c = y := by omega
        rw [e, py]
      · rw [z]
        refine ⟨by omega, by omega, fun c hc => ?_, fun c hc => by omega⟩
        have e : c = φ m := by omega
        rw [e, pa]
  exact ⟨h11, hM, fun b hb => ⟨(all b hb).1, h7 b hb⟩, fun b hb => (all b hb).2.1, fun b c hb hc => (all b hb).2.2.1 c hc, fun b c hb hc => (all b hb).2.2.2 c hc, fun b _ => by show N - own b < 390; omega⟩
end RCTR
