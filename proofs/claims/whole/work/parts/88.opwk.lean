/-! FACTS: all nodes are learned -/
section FACTC6
variable {Q k b e N M m t : Nat} {φ ψ own up : Nat → Nat} {W W2 : Nat → FV} {S T U V : ev_St}
abbrev tK (T : ev_St) (m : Nat) : Int := T.1 625 (3840 + m)
abbrev tC (T : ev_St) (m : Nat) : Int := T.1 626 (3840 + m)
abbrev tX (T : ev_St) (m : Nat) : Int := T.1 627 (3840 + m)
abbrev tR (T : ev_St) (m : Nat) : Int := T.1 630 (3840 + m)
abbrev tL (T : ev_St) (m : Nat) : Int := T.1 631 (3840 + m)
abbrev tH (T : ev_St) (m : Nat) : Int := T.1 632 (3840 + m)
theorem lnk_img {x y : Int} {f : Nat → Nat} (h : lnk N (fun t => t < N) f x y) : y = img f x ∧ (x = -1 ∨ ∃ t : Nat, x = (t : Int) ∧ t < N) := by
  rcases h with ⟨a, c⟩ | ⟨t, a, c, ⟨d, _⟩ | ⟨_, d⟩⟩
  · exact ⟨by rw [a, c]; rfl, Or.inl a⟩
  · exact absurd c d
  · exact ⟨by rw [a, d, img_n], Or.inr ⟨t, a, c⟩⟩
/-- what is told of the tables, in one place -/
def TREE (k N M : Nat) (φ ψ own up : Nat → Nat) (S T : ev_St) : Prop := (∀ m, m < N → φ m < M ∧ ψ m < M ∧ own (φ m) = m ∧ own (ψ m) = m) ∧ (∀ m, m < N → (tK T m = 18 → S.1 (k + 4) (φ m) = img ψ (tC T m)) ∧ (tK T m ≠ 18 → S.1 (k + 4) (φ m) = img φ (tC T m))) ∧ (∀ t, t < N → t ≠ 0 → (tK T t ≠ 18 → S.1 (k + 5) (ψ t) = img ψ (tX T t)) ∧ (tK T t = 18 → S.1 (k + 5) (φ t) = img φ (tX T t) ∧ φ t = ψ t)) ∧ (∀ m, m < N → (tC T m = -1 ∨ ∃ t : Nat, tC T m = (t : Int) ∧ m < t ∧ t < N ∧ up t = m ∧ (tK T t = 18 ↔ tK T m ≠ 18))) ∧ (∀ m, m < N → (tX T m = -1 ∨ ∃ t : Nat, tX T m = (t : Int) ∧ m < t ∧ t < N ∧ up t = up m ∧ (tK T t = 18 ↔ tK T m = 18))) ∧ (∀ t, t < N → t ≠ 0 → ψ t < φ (up t)) ∧ (∀ b, b < M → own b < N ∧ (b = φ (own b) ∨ b = ψ (own b) ∨ HLP k ψ S T (own b) b)) ∧ (∀ b, b < M → S.1 (k + 4) b < (b : Int)) ∧ ∀ m, m < N → rpt k M own m (φ m) (ψ m) S T
theorem TREE_of (h : FINX k N M φ ψ own up S T) : TREE k N M φ ψ own up S T := by
  obtain ⟨⟨⟨f1, ⟨f2, f3, f4, f5, f6, f7⟩, f8, f9, f10, f11, f12⟩, ⟨⟨u1, u2, u3, u4⟩, u5, u6, u7⟩, l2, ⟨v1, v2⟩, _⟩, _⟩ := h
  have ch : ∀ m, m < N → (tK T m = 18 → S.1 (k + 4) (φ m) = img ψ (tC T m)) ∧ (tK T m ≠ 18 → S.1 (k + 4) (φ m) = img φ (tC T m)) ∧ (tC T m = -1 ∨ ∃ t : Nat, tC T m = (t : Int)) ∧ (tX T m = -1 ∨ ∃ t : Nat, tX T m = (t : Int)) := fun m hm => by
    by_cases e : m = 0
    · subst e
      have q := lnk_img f7
      refine ⟨fun z => by rw [show tK T 0 = 9 from f9] at z; exact absurd z (by decide), fun _ => q.1, ?_, Or.inl f11⟩
      rcases q.2 with z | ⟨t, z, _⟩
      · exact Or.inl z
      · exact Or.inr ⟨t, z⟩
    · have w : ∀ {x y : Int} {f : Nat → Nat}, lnk N (fun t => t < N) f x y → x = -1 ∨ ∃ t : Nat, x = (t : Int) := fun {x y f} h => by
        rcases (lnk_img h).2 with z | ⟨t, z, _⟩
        · exact Or.inl z
        · exact Or.inr ⟨t, z⟩
      rcases (f1 m hm e).2.2.2 with ⟨a, b, c⟩ | ⟨a, b, c⟩
      · exact ⟨fun _ => (lnk_img b).1, fun z => absurd a z, w b, w c⟩
      · exact ⟨fun z => absurd z a, fun _ => (lnk_img b).1, w b, w c⟩
  have rp : ∀ m, m < N → rpt k M own m (φ m) (ψ m) S T := fun m hm => by
    by_cases e : m = 0
    · subst e
      exact Or.inl ⟨f12, f3⟩
    · exact (f1 m hm e).2.2.1
  refine ⟨fun m hm => ?_, fun m hm => ⟨(ch m hm).1, (ch m hm).2.1⟩, fun t ht h0 => ⟨fun h18 => ?_, fun h18 => ?_⟩, fun m hm => ?_, fun m hm => ?_, u5, u6, u7, rp⟩
  · by_cases e : m = 0
    · subst e
      exact ⟨f2, by rw [f3]; exact f2, f4, by rw [f3]; exact f4⟩
    · exact (f1 m hm e).1
  · rcases (f1 t ht h0).2.2.2 with ⟨a, b, c⟩ | ⟨a, b, c⟩
    · exact absurd a h18
    · exact (lnk_img c).1
  · have e : φ t = ψ t := by
      have r : T.1 630 (3840 + t) = -1 := l2 t ht h18
      rcases rp t ht with ⟨_, z⟩ | ⟨⟨z, _⟩, _⟩ | ⟨⟨z, _⟩, _⟩
      · exact z.symm
      · omega
      · omega
    rcases (f1 t ht h0).2.2.2 with ⟨a, b, c⟩ | ⟨a, b, c⟩
    · rw [e]
      exact ⟨(lnk_img c).1, rfl⟩
    · exact absurd h18 a
  · rcases (ch m hm).2.2.1 with z | ⟨t, z⟩
    · exact Or.inl z
    · have l := (v2 m hm).1 t (Or.inl z)
      exact Or.inr ⟨t, z, l.1, l.2, u2 m t hm z, (v2 m hm).2.1 t z⟩
  · rcases (ch m hm).2.2.2 with z | ⟨t, z⟩
    · exact Or.inl z
    · have l := (v2 m hm).1 t (Or.inr z)
      exact Or.inr ⟨t, z, l.1, l.2, u3 m t hm z, (v2 m hm).2.2.1 t z⟩
/-- the children of a node -/
def Kid (N : Nat) (up : Nat → Nat) (T : ev_St) (m t : Nat) : Prop := t < N ∧ t ≠ 0 ∧ up t = m ∧ (tK T t = 18 ↔ tK T m ≠ 18)
theorem Kid_X (h : TREE k N M φ ψ own up S T) : mbX N (tX T) (Kid N up T m) := fun t ⟨h1, h2, h3, h4⟩ => ⟨h1, by
  rcases h.2.2.2.2.1 t h1 with z | ⟨u, z, z1, z2, z3, z4⟩
  · exact Or.inl z
  · exact Or.inr ⟨u, z, z1, z2, by omega, by rw [z3, h3], z4.trans h4⟩⟩
theorem Kid_C (h : TREE k N M φ ψ own up S T) (hm : m < N) : mbc (Kid N up T m) 0 (tC T m) := by
  rcases h.2.2.2.1 m hm with z | ⟨u, z, z1, z2, z3, z4⟩
  · exact Or.inl z
  · exact Or.inr ⟨u, z, by omega, z2, by omega, z3, z4⟩
def EQa (k : Nat) (φ ψ : Nat → Nat) (S T : ev_St) (W : Nat → FV) (m : Nat) : Prop := (tK T m = 0 → W (φ m) = (1, 1, fun c => cs (S.2.1 (k + 8) (φ m)) (S.2.1 (k + 9) (φ m)) c = 1, fun c => cs (S.2.1 (k + 8) (φ m)) (S.2.1 (k + 9) (φ m)) c = 1, noP, noP)) ∧ (1 ≤ tK T m ∧ tK T m ≤ 6 → W (φ m) = (0, 1, noP, noP, noP, noP)) ∧ (tK T m = 7 ∨ tK T m = 14 → W (φ m) = (0, 0, allP, noP, noP, noP)) ∧ (15 ≤ tK T m ∧ tK T m ≤ 17 → W (φ m) = zFV) ∧ (tK T m = 18 → W (φ m) = chl (tX T) (fun v t => rowF v (W (ψ t))) 320 (tC T m) zFV) ∧ (8 ≤ tK T m ∧ tK T m ≤ 13 → W (φ m) = partE (S.1 (k + 1) (φ m)) (chl (tX T) (fun v t => partF (S.1 (k + 1) (φ m)) v (W (φ t))) 320 (tC T m) (0, 1000000, if S.1 (k + 1) (φ m) = 18 then 2 else 0, noP, noP, noP, noP)))
/-- a row of one item -/
def row1 (w : FV) : FV := rowF zFV w
/-- an atomic part of one row -/
def part1 (w : FV) : FV := partE 19 (partF 19 (0, 1000000, 0, noP, noP, noP, noP) w)
def WQ (k N M : Nat) (φ ψ : Nat → Nat) (S T : ev_St) (W : Nat → FV) (b : Nat) : Prop := (∀ e, e < b → fcv (W e).1 ∧ fcv (W e).2.1) ∧ ∀ m, m < N → (φ m < b → EQa k φ ψ S T W m) ∧ (ψ m < b → (tR T m = 0 ∨ tR T m = 1) → W (ψ m) = repF (tL T m) (tH T m) (W (φ m))) ∧ (tR T m = 2 → ∀ x y : Nat, S.1 (k + 4) (ψ m) = (x : Int) → S.1 (k + 4) x = (y : Int) → (y < b → W y = repF (tL T m) (tH T m) (W (φ m))) ∧ (x < b → W x = row1 (W y)) ∧ (ψ m < b → W (ψ m) = part1 (W x)))
theorem EQa_c (h : TREE k N M φ ψ own up S T) (hm : m < N) (hw : ∀ e, e ≤ φ m → W2 e = W e) (hq : EQa k φ ψ S T W m) : EQa k φ ψ S T W2 m := by
  obtain ⟨a1, a2, a3, a4, a5, a6⟩ := hq
  have e0 := hw (φ m) (Nat.le_refl _)
  have kd : ∀ t, Kid N up T m t → W2 (ψ t) = W (ψ t) := fun t ⟨h1, h2, h3, h4⟩ => hw _ (by have := h.2.2.2.2.2.1 t h1 h2; rw [h3] at this; omega)
  refine ⟨fun z => by rw [e0]; exact a1 z, fun z => by rw [e0]; exact a2 z, fun z => by rw [e0]; exact a3 z, fun z => by rw [e0]; exact a4 z, fun z => ?_, fun z => ?_⟩
  · rw [e0, a5 z]
    exact chl_mem (Kid_X h (m := m)) (fun a b => a = b) (fun a a' t ht ha => by rw [kd t ht, ha]) 320 0 _ _ _ (Kid_C h hm) rfl
  · rw [e0, a6 z]
    refine congrArg _ (chl_mem (Kid_X h (m := m)) (fun a b => a = b) (fun a a' t ht ha => ?_) 320 0 _ _ _ (Kid_C h hm) rfl)
    have k18 : tK T t = 18 := ht.2.2.2.mpr (by omega)
    rw [((h.2.2.1 t ht.1 ht.2.1).2 k18).2, kd t ht, ha]
/-- a repeat's nodes have smaller ones in them -/
theorem TREE_r (h : TREE k N M φ ψ own up S T) (hm : m < N) : ((tR T m = 0 ∨ tR T m = 1) → φ m < ψ m) ∧ (tR T m = 2 → ∀ x y : Nat, S.1 (k + 4) (ψ m) = (x : Int) → S.1 (k + 4) x = (y : Int) → φ m < y ∧ y < x ∧ x < ψ m ∧ own x = m ∧ own y = m ∧ S.1 (k + 1) (ψ m) = 19 ∧ S.1 (k + 1) x = 15 ∧ S.1 (k + 5) x = -1 ∧ S.1 (k + 1) y = 13 ∧ S.1 (k + 4) y = (φ m : Int) ∧ S.1 (k + 2) y = tL T m ∧ S.1 (k + 3) y = tH T m ∧ S.1 (k + 5) y = -1) := by
  have lt := h.2.2.2.2.2.2.2.1
  have hM := (h.1 m hm).2.1
  refine ⟨fun hr => ?_, fun hr x y hx hy => ?_⟩
  · have hr' : T.1 630 (3840 + m) = 0 ∨ T.1 630 (3840 + m) = 1 := hr
    rcases h.2.2.2.2.2.2.2.2 m hm with ⟨z, _⟩ | ⟨_, _, z, _⟩ | ⟨⟨z, _⟩, _⟩
    · omega
    · have := lt (ψ m) hM
      omega
    · omega
  · have hr' : T.1 630 (3840 + m) = 2 := hr
    rcases h.2.2.2.2.2.2.2.2 m hm with ⟨z, _⟩ | ⟨⟨z, _⟩, _⟩ | ⟨_, x', y', ⟨z1, z2, z3, z4, z5, z6⟩, ⟨z7, z8⟩, ⟨z9, z10, z11⟩, ⟨z12, z13, z14, z15, z16⟩, _⟩
    · omega
    · omega
    · obtain rfl : x = x' := by omega
      obtain rfl : y = y' := by omega
      have l1 := lt (ψ m) hM
      have l2 := lt x z1
      have l3 := lt y z2
      exact ⟨by omega, by omega, by omega, z3, z4, z7, z9, z11, z12, z13, z14, z15, z16⟩
theorem WQ_s (h : TREE k N M φ ψ own up S T) (hw : WQ k N M φ ψ S T W b) (hc : ∀ e, e < b → W2 e = W e) (hd : fcv (W2 b).1 ∧ fcv (W2 b).2.1) (h1 : ∀ m, m < N → φ m = b → EQa k φ ψ S T W2 m) (h2 : ∀ m, m < N → ψ m = b → (tR T m = 0 ∨ tR T m = 1) → W2 b = repF (tL T m) (tH T m) (W2 (φ m))) (h3 : ∀ m, m < N → tR T m = 2 → ∀ x y : Nat, S.1 (k + 4) (ψ m) = (x : Int) → S.1 (k + 4) x = (y : Int) → (y = b → W2 b = repF (tL T m) (tH T m) (W2 (φ m))) ∧ (x = b → W2 b = row1 (W2 y)) ∧ (ψ m = b → W2 b = part1 (W2 x))) : WQ k N M φ ψ S T W2 (b + 1) := by
  refine ⟨fun e he => ?_, fun m hm => ⟨fun hb => ?_, fun hb hr => ?_, fun hr x y hx hy => ?_⟩⟩
  · by_cases z : e = b
    · rw [z]
      exact hd
    · rw [hc e (by omega)]
      exact hw.1 e (by omega)
  · by_cases z : φ m = b
    · exact h1 m hm z
    · exact EQa_c h hm (fun e he => hc e (by omega)) ((hw.2 m hm).1 (by omega))
  · by_cases z : ψ m = b
    · rw [z]
      exact h2 m hm z hr
    · have := (TREE_r h hm).1 hr
      rw [hc _ (by omega), hc _ (by omega)]
      exact (hw.2 m hm).2.1 (by omega) hr
  · obtain ⟨q1, q2, q3, _⟩ := (TREE_r h hm).2 hr x y hx hy
    obtain ⟨w1, w2, w3⟩ := (hw.2 m hm).2.2 hr x y hx hy
    obtain ⟨g1, g2, g3⟩ := h3 m hm hr x y hx hy
    refine ⟨fun hb => ?_, fun hb => ?_, fun hb => ?_⟩
    · by_cases z : y = b
      · rw [z]
        exact g1 z
      · rw [hc _ (by omega), hc _ (by omega)]
        exact w1 (by omega)
    · by_cases z : x = b
      · rw [z]
        exact g2 z
      · rw [hc _ (by omega), hc _ (by omega)]
        exact w2 (by omega)
    · by_cases z : ψ m = b
      · rw [z]
        exact g3 z
      · rw [hc _ (by omega), hc _ (by omega)]
        exact w3 (by omega)
end FACTC6
