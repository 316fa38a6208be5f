/-! THE READER'S TABLES: what is still open, and a new leaf on both sides -/
section OREL
def isOp (D : Nat) (G R : Nat → Nat) (t : Nat) : Prop := ∃ i, i ≤ D ∧ (t = G i ∨ t = R i)
def clo (N D : Nat) (G R : Nat → Nat) (t : Nat) : Prop := t < N ∧ ¬ isOp D G R t
/-- what comes behind the last item that is done: the group that is open within, or nothing -/
def nxt (D : Nat) (G : Nat → Nat) (i : Nat) : Int := if i < D then (G (i + 1) : Int) else -1
/-- rows of an open group: q the last one that is done -/
def ORw (cl : Nat → Prop) (φ : Nat → Nat) (g r i : Nat) (q : Int) (S T : ev_St) : Prop := (q = -1 ∧ T.1 626 (3840 + g) = (r : Int) ∧ S.1 (17 + i) 4 = -1 ∧ S.1 (17 + i) 5 = -1) ∨ ∃ t u : Nat, q = (t : Int) ∧ (cl t ∧ T.1 625 (3840 + t) = 18 ∧ T.1 627 (3840 + t) = (r : Int) ∧ S.1 (17 + i) 5 = (φ t : Int)) ∧ cl u ∧ T.1 625 (3840 + u) = 18 ∧ T.1 626 (3840 + g) = (u : Int) ∧ S.1 (17 + i) 4 = (φ u : Int)
/-- items of an open row: p the last one that is done, behind it nx -/
def OIt (cl : Nat → Prop) (ψ : Nat → Nat) (r i : Nat) (p nx : Int) (S T : ev_St) : Prop := (p = -1 ∧ T.1 626 (3840 + r) = nx ∧ S.1 (17 + i) 6 = -1 ∧ S.1 (17 + i) 7 = -1) ∨ ∃ t u : Nat, p = (t : Int) ∧ (cl t ∧ T.1 625 (3840 + t) ≠ 18 ∧ T.1 627 (3840 + t) = nx ∧ S.1 (17 + i) 7 = (ψ t : Int)) ∧ (cl u ∧ T.1 625 (3840 + u) ≠ 18 ∧ T.1 626 (3840 + r) = (u : Int) ∧ S.1 (17 + i) 6 = (ψ u : Int)) ∧ ((u = t ∧ S.1 (17 + i) 8 = -1) ∨ ∃ b : Nat, cl b ∧ b ≠ t ∧ u ≠ t ∧ T.1 625 (3840 + b) ≠ 18 ∧ T.1 627 (3840 + b) = (t : Int) ∧ S.1 (17 + i) 8 = (ψ b : Int))
/-- the group and the row themselves -/
def OGr (g r i : Nat) (S T : ev_St) : Prop := (T.1 625 (3840 + r) = 18 ∧ T.1 627 (3840 + r) = -1 ∧ T.1 630 (3840 + r) = -1 ∧ T.1 627 (3840 + g) = -1 ∧ T.1 630 (3840 + g) = -1) ∧ (8 ≤ T.1 625 (3840 + g) ∧ T.1 625 (3840 + g) ≤ 13) ∧ (S.1 (17 + i) 0 = if i = 0 then 16 else kcl (T.1 625 (3840 + g)) (T.1 629 (3840 + g))) ∧ (i = 0 ∨ T.1 625 (3840 + g) = 8 ∨ T.1 625 (3840 + g) = 13 → S.1 (17 + i) 1 = T.1 628 (3840 + g)) ∧ S.1 (17 + i) 2 = T.1 649 i ∧ (S.1 (17 + i) 3 = if i = 0 then 1 else T.1 650 i)
/-- all tables of the reader: N, M nodes, D + 1 are open -/
def RDR (k N M D : Nat) (φ ψ own G R : Nat → Nat) (P q : Nat → Int) (S T : ev_St) : Prop := (T.1 635 12 = (N : Int) ∧ S.1 k 11 = (M : Int) ∧ S.1 3 10 = (D : Int) ∧ T.1 621 31 = (D : Int) + 1 ∧ D < 152) ∧ (∀ i, i ≤ D → G i < N ∧ R i < N ∧ (∀ j, j ≤ D → G i ≠ R j ∧ (i ≠ j → G i ≠ G j ∧ R i ≠ R j))) ∧ (∀ i, i ≤ D → T.1 646 i = (G i : Int) ∧ (i < D → T.1 647 (i + 1) = (R i : Int) ∧ T.1 648 (i + 1) = (G (i + 1) : Int))) ∧ (T.1 621 37 = (R D : Int) ∧ T.1 621 38 = P D) ∧ (∀ i, i ≤ D → ORw (clo N D G R) φ (G i) (R i) i (q i) S T ∧ OIt (clo N D G R) ψ (R i) i (P i) (nxt D G i) S T ∧ OGr (G i) (R i) i S T) ∧ ∀ m, clo N D G R m → NR k N M (clo N D G R) φ ψ own S T m
variable {k N M D m : Nat} {φ ψ own G R : Nat → Nat} {P q : Nat → Int} {S T S2 T2 : ev_St}
theorem clo_s (hG : ∀ i, i ≤ D → G i < N ∧ R i < N) {t : Nat} : clo (N + 1) D G R t ↔ clo N D G R t ∨ t = N := by
  unfold clo
  constructor
  · intro h
    by_cases e : t = N
    · exact Or.inr e
    · exact Or.inl ⟨by omega, h.2⟩
  · rintro (h | rfl)
    · exact ⟨by omega, h.2⟩
    · refine ⟨by omega, fun ⟨i, h1, h2⟩ => ?_⟩
      have := hG i h1
      omega
theorem RDR_last (h : RDR k N M D φ ψ own G R P q S T) : (P D = -1 ∧ S.1 (17 + D) 7 = -1) ∨ ∃ t : Nat, P D = (t : Int) ∧ clo N D G R t ∧ S.1 (17 + D) 7 = (ψ t : Int) ∧ ψ t < M := by
  obtain ⟨_, _, _, _, h5, h6⟩ := h
  rcases (h5 D (Nat.le_refl _)).2.1 with ⟨a, b, c, d⟩ | ⟨t, u, a, ⟨b, c, d, e⟩, _⟩
  · exact Or.inl ⟨a, d⟩
  · exact Or.inr ⟨t, a, b, e, (h6 t b).1.2.1⟩
end OREL
