/-! THE READER'S TABLES: in which node each stands; the class's numbers grow from within -/
section UPS
variable {k N M D m : Nat} {φ ψ own up inn G R : Nat → Nat} {P q : Nat → Int} {S T S2 T2 : ev_St}
/-- a class's node that is neither an atom nor an item: of a possessive repeat -/
def HLP (k : Nat) (ψ : Nat → Nat) (S T : ev_St) (m b : Nat) : Prop := T.1 630 (3840 + m) = 2 ∧ (S.1 (k + 4) (ψ m) = (b : Int) ∨ ∃ x : Nat, S.1 (k + 4) (ψ m) = (x : Int) ∧ S.1 (k + 4) x = (b : Int))
/-- each node is linked from somewhere -/
def LND (N : Nat) (up : Nat → Nat) (T : ev_St) : Prop := ∀ t : Nat, t ≠ 0 → t < N → T.1 626 (3840 + up t) = (t : Int) ∨ ∃ s : Nat, s < N ∧ T.1 627 (3840 + s) = (t : Int) ∧ up s = up t
theorem LND_c (h : LND N up T) (hu : ∀ t, t < N → up t < N) (t1 : ∀ m c, m < N → c = 626 ∨ c = 627 → T2.1 c (3840 + m) = T.1 c (3840 + m)) : LND N up T2 := fun t h0 ht => by
  rcases h t h0 ht with z | ⟨s, z1, z2, z3⟩
  · exact Or.inl (by rw [t1 _ 626 (hu t ht) (Or.inl rfl)]; exact z)
  · exact Or.inr ⟨s, z1, by rw [t1 _ 627 z1 (Or.inr rfl)]; exact z2, z3⟩
def UP (k N M D : Nat) (φ ψ own up G R : Nat → Nat) (P : Nat → Int) (S T : ev_St) : Prop := ((∀ t, t < N → up t < N) ∧ (∀ m t : Nat, m < N → T.1 626 (3840 + m) = (t : Int) → up t = m) ∧ (∀ m t : Nat, m < N → T.1 627 (3840 + m) = (t : Int) → up t = up m) ∧ LND N up T) ∧ (∀ i, i ≤ D → up (R i) = G i ∧ (∀ t : Nat, P i = (t : Int) → up t = R i) ∧ (i < D → up (G (i + 1)) = R i)) ∧ (∀ t, clo N D G R t → clo N D G R (up t) → t ≠ 0 → ψ t < φ (up t)) ∧ (∀ b, b < M → clo N D G R (own b) ∧ (b = φ (own b) ∨ b = ψ (own b) ∨ HLP k ψ S T (own b) b)) ∧ ∀ b, b < M → S.1 (k + 4) b < (b : Int)
theorem HLP_c {b : Nat} {ψ2 : Nat → Nat} (h : HLP k ψ S T m b) (hψ : ψ2 m = ψ m) (hM : ψ m < M) (h7 : ∀ b, b < M → S.1 (k + 4) b < (b : Int)) (s1 : ∀ b, b < M → S2.1 (k + 4) b = S.1 (k + 4) b) (t1 : T2.1 630 (3840 + m) = T.1 630 (3840 + m)) : HLP k ψ2 S2 T2 m b := by
  obtain ⟨a, b'⟩ := h
  refine ⟨by rw [t1, a], ?_⟩
  rw [hψ, s1 _ hM]
  rcases b' with z | ⟨x, z1, z2⟩
  · exact Or.inl z
  · have := h7 _ hM
    exact Or.inr ⟨x, z1, by rw [s1 x (by omega)]; exact z2⟩
theorem UP_c (h : UP k N M D φ ψ own up G R P S T) (hψ : ∀ t, clo N D G R t → ψ t < M) (s1 : ∀ b, b < M → S2.1 (k + 4) b = S.1 (k + 4) b) (t1 : ∀ m c, m < N → c = 626 ∨ c = 627 ∨ c = 630 → T2.1 c (3840 + m) = T.1 c (3840 + m)) : UP k N M D φ ψ own up G R P S2 T2 := by
  obtain ⟨⟨a1, a2, a3, a8⟩, a4, a5, a6, a7⟩ := h
  refine ⟨⟨a1, fun m t hm ht => a2 m t hm ((t1 m 626 hm (by omega)).symm.trans ht), fun m t hm ht => a3 m t hm ((t1 m 627 hm (by omega)).symm.trans ht), LND_c a8 a1 (fun m c hm hc => t1 m c hm (by omega))⟩, a4, a5, fun b hb => ?_, fun b hb => by rw [s1 b hb]; exact a7 b hb⟩
  have q := a6 b hb
  exact ⟨q.1, q.2.imp_right (Or.imp_right fun z => HLP_c z rfl (hψ _ q.1) a7 s1 (t1 _ _ q.1.1 (by omega)))⟩
/-- links: one that is new -/
theorem UP_lk {n s0 rc : Nat} {up' : Nat → Nat} (h : UP k N M D φ ψ own up G R P S T) (hI : INN N inn T) (hx : ∀ t, t < N → up' t = up t) (hs : s0 < N) (hrc : (rc = 626 ∧ up' n = s0) ∨ (rc = 627 ∧ up' n = up s0)) (t1 : ∀ m c, m < N → c = 626 ∨ c = 627 ∨ c = 630 → ¬ (c = rc ∧ m = s0) → T2.1 c (3840 + m) = T.1 c (3840 + m)) (t2 : T2.1 rc (3840 + s0) = (n : Int)) (h8 : T.1 rc (3840 + s0) = -1) : (∀ m t : Nat, m < N → T2.1 626 (3840 + m) = (t : Int) → up' t = m) ∧ (∀ m t : Nat, m < N → T2.1 627 (3840 + m) = (t : Int) → up' t = up' m) ∧ ∀ t : Nat, t ≠ 0 → t < N ∨ t = n → T2.1 626 (3840 + up' t) = (t : Int) ∨ ∃ s : Nat, s < N ∧ T2.1 627 (3840 + s) = (t : Int) ∧ up' s = up' t := by
  obtain ⟨⟨a1, a2, a3, a8⟩, a4, a5, a6, a7⟩ := h
  refine ⟨fun m t hm ht => ?_, fun m t hm ht => ?_, fun t h0 ht => ?_⟩
  · by_cases e : 626 = rc ∧ m = s0
    · have e1 := e.1
      rw [e1, e.2, t2] at ht
      have e2 : t = n := by omega
      rw [e2, e.2]
      omega
    · rw [t1 m 626 hm (by omega) e] at ht
      rw [hx t (hI m t hm (Or.inl ht)).1]
      exact a2 m t hm ht
  · by_cases e : 627 = rc ∧ m = s0
    · have e1 := e.1
      rw [e1, e.2, t2] at ht
      have e2 : t = n := by omega
      rw [e2, e.2, hx s0 hs]
      omega
    · rw [t1 m 627 hm (by omega) e] at ht
      rw [hx t (hI m t hm (Or.inr ht)).1, hx m hm]
      exact a3 m t hm ht
  · by_cases en : t = n
    · rcases hrc with ⟨e1, e2⟩ | ⟨e1, e2⟩
      · refine Or.inl ?_
        rw [e1] at t2
        rw [en, e2, t2]
      · refine Or.inr ⟨s0, hs, ?_, by rw [en, hx s0 hs, e2]⟩
        rw [e1] at t2
        rw [en, t2]
    · have tN := ht.resolve_right en
      rw [hx t tN]
      rcases a8 t h0 tN with z | ⟨s, z1, z2, z3⟩
      · refine Or.inl ?_
        by_cases e : 626 = rc ∧ up t = s0
        · rw [← e.1, ← e.2, z] at h8
          omega
        · rw [t1 _ 626 (a1 t tN) (by omega) e]
          exact z
      · refine Or.inr ⟨s, z1, ?_, by rw [hx s z1]; exact z3⟩
        by_cases e : 627 = rc ∧ s = s0
        · rw [← e.1, ← e.2, z2] at h8
          omega
        · rw [t1 _ 627 z1 (by omega) e]
          exact z2
/-- where the next item is linked nothing is linked yet -/
theorem lk_m1 {s0 rc : Nat} (hR : RDR k N M D φ ψ own G R P q S T) (k3 : (P D = -1 ∧ rc = 626 ∧ s0 = R D) ∨ (P D = (s0 : Int) ∧ rc = 627)) : T.1 rc (3840 + s0) = -1 := by
  have nx : nxt D G D = -1 := if_neg (Nat.lt_irrefl _)
  rcases (hR.2.2.2.2.1 D (Nat.le_refl _)).2.1 with ⟨z1, z2, _⟩ | ⟨t, u, z1, ⟨_, _, z2, _⟩, _⟩
  · rcases k3 with ⟨_, e1, e2⟩ | ⟨e1, _⟩
    · rw [e1, e2, z2, nx]
    · omega
  · rcases k3 with ⟨e1, _⟩ | ⟨e1, e2⟩
    · omega
    · have : t = s0 := by omega
      rw [← this, e2, z2, nx]
theorem UP_leaf {s0 rc : Nat} (h : UP k N M D φ ψ own up G R P S T) (hR : RDR k N M D φ ψ own G R P q S T) (hI : INN N inn T) (hs : s0 < N) (k3 : (P D = -1 ∧ rc = 626 ∧ s0 = R D) ∨ (P D = (s0 : Int) ∧ rc = 627)) (t1 : ∀ m c, m < N → c = 626 ∨ c = 627 ∨ c = 630 → ¬ (c = rc ∧ m = s0) → T2.1 c (3840 + m) = T.1 c (3840 + m)) (t2 : T2.1 rc (3840 + s0) = (N : Int)) (t3 : T2.1 626 (3840 + N) = -1 ∧ T2.1 627 (3840 + N) = -1) (s1 : ∀ b, b < M → S2.1 (k + 4) b = S.1 (k + 4) b) (s2 : S2.1 (k + 4) M = -1) : UP k (N + 1) (M + 1) D (nup φ N M) (nup ψ N M) (nup own M N) (nup up N (R D)) G R (iup P D (N : Int)) S2 T2 := by
  have h8 := lk_m1 hR k3
  obtain ⟨_, hG, _, _, ho, hn⟩ := hR
  have gD := hG D (Nat.le_refl _)
  have hPN : ∀ i t, i ≤ D → P i = ((t : Nat) : Int) → t < N := fun i t hi ht => by
    rcases (ho i hi).2.1 with ⟨z, _⟩ | ⟨t', u, z1, ⟨z2, _⟩, _⟩
    · omega
    · have := z2.1
      omega
  have lk := UP_lk (n := N) (up' := nup up N (R D)) h hI (fun t ht => nup_ne (by omega)) hs (by
    rw [nup_eq]
    rcases k3 with ⟨_, z1, z2⟩ | ⟨z1, z2⟩
    · exact Or.inl ⟨z1, z2.symm⟩
    · exact Or.inr ⟨z2, ((h.2.1 D (Nat.le_refl _)).2.1 s0 z1).symm⟩) t1 t2 h8
  have cs : ∀ t, clo (N + 1) D G R t ↔ clo N D G R t ∨ t = N := fun t => clo_s (fun i hi => ⟨(hG i hi).1, (hG i hi).2.1⟩)
  obtain ⟨⟨a1, a2, a3, a8⟩, a4, a5, a6, a7⟩ := h
  refine ⟨⟨fun t ht => ?_, fun m t hm ht => ?_, fun m t hm ht => ?_, fun t h0 ht => (lk.2.2 t h0 (by omega)).imp_right fun ⟨s, z1, z2, z3⟩ => ⟨s, by omega, z2, z3⟩⟩, fun i hi => ⟨?_, fun t ht => ?_, fun hi2 => ?_⟩, fun t ht hu h0 => ?_, fun b hb => ?_, fun b hb => ?_⟩
  · by_cases e : t = N
    · rw [e, nup_eq]
      omega
    · rw [nup_ne e]
      have := a1 t (by omega)
      omega
  · by_cases e : m = N
    · rw [e, t3.1] at ht
      omega
    · exact lk.1 m t (by omega) ht
  · by_cases e : m = N
    · rw [e, t3.2] at ht
      omega
    · exact lk.2.1 m t (by omega) ht
  · rw [nup_ne (by have := (hG i hi).2.1; omega)]
    exact (a4 i hi).1
  · by_cases e : i = D
    · subst e
      rw [iup_eq] at ht
      have : t = N := by omega
      rw [this, nup_eq]
    · rw [iup_ne e] at ht
      rw [nup_ne (by have := hPN i t hi ht; omega)]
      exact (a4 i hi).2.1 t ht
  · rw [nup_ne (by have := (hG (i + 1) hi2).1; omega)]
    exact (a4 i hi).2.2 hi2
  · rcases (cs t).mp ht with z | z
    · have tN := z.1
      rw [show nup up N (R D) t = up t from nup_ne (by omega)] at hu ⊢
      have uN := a1 t tN
      rw [nup_ne (by omega), nup_ne (by omega)]
      rcases (cs _).mp hu with y | y
      · exact a5 t z y h0
      · omega
    · rw [z, nup_eq] at hu
      exact absurd ⟨D, Nat.le_refl _, Or.inr rfl⟩ hu.2
  · by_cases e : b = M
    · rw [e, nup_eq]
      exact ⟨(cs N).mpr (Or.inr rfl), Or.inl (by rw [nup_eq])⟩
    · have q := a6 b (by omega)
      have oN := q.1.1
      rw [nup_ne e, nup_ne (by omega), nup_ne (by omega)]
      exact ⟨(cs _).mpr (Or.inl q.1), q.2.imp_right (Or.imp_right fun z => HLP_c z (nup_ne (by omega)) (hn _ q.1).1.2.1 a7 s1 (t1 _ _ oN (by omega) (by omega)))⟩
  · by_cases e : b = M
    · rw [e, s2]
      omega
    · rw [s1 b (by omega)]
      exact a7 b (by omega)
theorem UP_rep {t j M2 : Nat} {own2 : Nat → Nat} (h : UP k N M D φ ψ own up G R P S T) (hR : RDR k N M D φ ψ own G R P q S T) (hP : P D = (t : Int)) (h630 : T.1 630 (3840 + t) = -1) (hM : M ≤ M2) (ho : ∀ b, b < M → own2 b = own b) (ho2 : ∀ b, M ≤ b → b < M2 → own2 b = t ∧ (b = j ∨ HLP k (nup ψ t j) S2 T2 t b) ∧ S2.1 (k + 4) b < (b : Int)) (s1 : ∀ b, b < M → S2.1 (k + 4) b = S.1 (k + 4) b) (t1 : ∀ m c, m < N → c = 626 ∨ c = 627 ∨ (c = 630 ∧ m ≠ t) → T2.1 c (3840 + m) = T.1 c (3840 + m)) : UP k N M2 D φ (nup ψ t j) own2 up G R P S2 T2 := by
  have ct : clo N D G R t ∧ ψ t = φ t := by
    have hc : clo N D G R t := by
      rcases (hR.2.2.2.2.1 D (Nat.le_refl _)).2.1 with ⟨z, _⟩ | ⟨t', u, z1, ⟨z2, _⟩, _⟩
      · omega
      · have : t' = t := by omega
        rw [← this]
        exact z2
    refine ⟨hc, ?_⟩
    rcases (hR.2.2.2.2.2 t hc).2.2.1 with ⟨_, w⟩ | ⟨⟨w, _⟩, _⟩ | ⟨⟨w, _⟩, _⟩
    · exact w
    · omega
    · omega
  obtain ⟨⟨a1, a2, a3, a8⟩, a4, a5, a6, a7⟩ := h
  refine ⟨⟨a1, fun m t hm ht => a2 m t hm ((t1 m 626 hm (by omega)).symm.trans ht), fun m t hm ht => a3 m t hm ((t1 m 627 hm (by omega)).symm.trans ht), LND_c a8 a1 (fun m c hm hc => t1 m c hm (by omega))⟩, a4, fun x hx hu h0 => ?_, fun b hb => ?_, fun b hb => ?_⟩
  · by_cases e : x = t
    · rw [e, (a4 D (Nat.le_refl _)).2.1 t hP] at hu
      exact absurd ⟨D, Nat.le_refl _, Or.inr rfl⟩ hu.2
    · rw [nup_ne e]
      exact a5 x hx hu h0
  · by_cases e : b < M
    · rw [ho b e]
      have q := a6 b e
      refine ⟨q.1, ?_⟩
      by_cases e2 : own b = t
      · rw [e2] at q ⊢
        rw [ct.2] at q
        rcases q.2 with z | z | z
        · exact Or.inl z
        · exact Or.inl z
        · have := z.1
          omega
      · rw [nup_ne e2]
        exact q.2.imp_right (Or.imp_right fun z => HLP_c z (nup_ne e2) (hR.2.2.2.2.2 _ q.1).1.2.1 a7 s1 (t1 _ _ q.1.1 (by omega)))
    · obtain ⟨q1, q2, _⟩ := ho2 b (by omega) hb
      rw [q1, nup_eq]
      exact ⟨ct.1, Or.inr q2⟩
  · by_cases e : b < M
    · rw [s1 b e]
      exact a7 b e
    · exact (ho2 b (by omega) hb).2.2
end UPS
