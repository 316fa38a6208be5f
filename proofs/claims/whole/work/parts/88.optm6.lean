/-! THE READER'S TABLES: in which node each stands: opened, rows, ends -/
section UPS2
variable {k N M D m : Nat} {φ ψ own up inn G R : Nat → Nat} {P q : Nat → Int} {S T S2 T2 : ev_St}
theorem UP_open {s0 rc : Nat} (h : UP k N M D φ ψ own up G R P S T) (hR : RDR k N M D φ ψ own G R P q S T) (hI : INN N inn T) (hs : s0 < N) (k3 : (P D = -1 ∧ rc = 626 ∧ s0 = R D) ∨ (P D = (s0 : Int) ∧ rc = 627)) (t1 : ∀ m c, m < N → c = 626 ∨ c = 627 ∨ c = 630 → ¬ (c = rc ∧ m = s0) → T2.1 c (3840 + m) = T.1 c (3840 + m)) (t2 : T2.1 rc (3840 + s0) = (N : Int)) (t3 : T2.1 626 (3840 + N) = (N : Int) + 1 ∧ T2.1 627 (3840 + N) = -1) (t4 : T2.1 626 (3840 + (N + 1)) = -1 ∧ T2.1 627 (3840 + (N + 1)) = -1) (s1 : ∀ b, b < M → S2.1 (k + 4) b = S.1 (k + 4) b) : UP k (N + 2) M (D + 1) φ ψ own (nup (nup up N (R D)) (N + 1) N) (nup G (D + 1) N) (nup R (D + 1) (N + 1)) (iup P (D + 1) (-1)) S2 T2 := by
  have h8 := lk_m1 hR k3
  obtain ⟨_, hG, _, _, ho, hn⟩ := hR
  have gD := hG D (Nat.le_refl _)
  have hPN : ∀ i t, i ≤ D → P i = ((t : Nat) : Int) → t < N := fun i t hi ht => by
    rcases (ho i hi).2.1 with ⟨z, _⟩ | ⟨t', u, z1, ⟨z2, _⟩, _⟩
    · omega
    · have := z2.1
      omega
  have xo : ∀ t, t < N → nup (nup up N (R D)) (N + 1) N t = up t := fun t ht => by rw [nup_ne (by omega), nup_ne (by omega)]
  have xN : nup (nup up N (R D)) (N + 1) N N = R D := by rw [nup_ne (by omega), nup_eq]
  have lk := UP_lk (n := N) (up' := nup (nup up N (R D)) (N + 1) N) h hI xo hs (by
    rw [xN]
    rcases k3 with ⟨_, z1, z2⟩ | ⟨z1, z2⟩
    · exact Or.inl ⟨z1, z2.symm⟩
    · exact Or.inr ⟨z2, ((h.2.1 D (Nat.le_refl _)).2.1 s0 z1).symm⟩) t1 t2 h8
  have cs : ∀ t, clo (N + 2) (D + 1) (nup G (D + 1) N) (nup R (D + 1) (N + 1)) t ↔ clo N D G R t := fun t => by
    constructor
    · rintro ⟨z1, z2⟩
      have e1 : t ≠ N := fun z => z2 ⟨D + 1, Nat.le_refl _, Or.inl (by rw [nup_eq, z])⟩
      have e2 : t ≠ N + 1 := fun z => z2 ⟨D + 1, Nat.le_refl _, Or.inr (by rw [nup_eq, z])⟩
      refine ⟨by omega, fun ⟨i, hi, z⟩ => z2 ⟨i, by omega, ?_⟩⟩
      rw [nup_ne (by omega), nup_ne (by omega)]
      exact z
    · rintro ⟨z1, z2⟩
      refine ⟨by omega, fun ⟨i, hi, z⟩ => ?_⟩
      by_cases e : i = D + 1
      · subst e
        rw [nup_eq, nup_eq] at z
        omega
      · rw [nup_ne e, nup_ne e] at z
        exact z2 ⟨i, by omega, z⟩
  obtain ⟨⟨a1, a2, a3, a8⟩, a4, a5, a6, a7⟩ := h
  refine ⟨⟨fun t ht => ?_, fun m t hm ht => ?_, fun m t hm ht => ?_, fun t h0 ht => ?lnd⟩, fun i hi => ?_, fun t ht hu h0 => ?_, fun b hb => ?_, fun b hb => ?_⟩
  case lnd =>
    by_cases e : t = N + 1
    · exact Or.inl (by rw [e, nup_eq, t3.1]; omega)
    · exact (lk.2.2 t h0 (by omega)).imp_right fun ⟨s, z1, z2, z3⟩ => ⟨s, by omega, z2, z3⟩
  · by_cases e : t = N + 1
    · rw [e, nup_eq]
      omega
    · by_cases e2 : t = N
      · rw [e2, xN]
        omega
      · rw [xo t (by omega)]
        have := a1 t (by omega)
        omega
  · by_cases e : m = N
    · rw [e, t3.1] at ht
      have : t = N + 1 := by omega
      rw [this, nup_eq, e]
    · by_cases e2 : m = N + 1
      · rw [e2, t4.1] at ht
        omega
      · exact lk.1 m t (by omega) ht
  · by_cases e : m = N
    · rw [e, t3.2] at ht
      omega
    · by_cases e2 : m = N + 1
      · rw [e2, t4.2] at ht
        omega
      · exact lk.2.1 m t (by omega) ht
  · by_cases e : i = D + 1
    · subst e
      rw [nup_eq, nup_eq, iup_eq, nup_eq]
      exact ⟨rfl, fun t ht => by omega, fun z => by omega⟩
    · have hi' : i ≤ D := by omega
      have gi := hG i hi'
      rw [nup_ne e, nup_ne e, iup_ne e, xo _ gi.2.1]
      refine ⟨(a4 i hi').1, fun t ht => ?_, fun _ => ?_⟩
      · rw [xo t (hPN i t hi' ht)]
        exact (a4 i hi').2.1 t ht
      · by_cases e2 : i = D
        · subst e2
          rw [nup_eq, xN]
        · rw [show nup G (D + 1) N (i + 1) = G (i + 1) from nup_ne (by omega), xo _ (hG (i + 1) (by omega)).1]
          exact (a4 i hi').2.2 (by omega)
  · have z := (cs t).mp ht
    rw [xo t z.1] at hu ⊢
    exact a5 t z ((cs _).mp hu) h0
  · have q := a6 b hb
    exact ⟨(cs _).mpr q.1, q.2.imp_right (Or.imp_right fun z => HLP_c z rfl (hn _ q.1).1.2.1 a7 s1 (t1 _ _ q.1.1 (by omega) (by omega)))⟩
  · rw [s1 b hb]
    exact a7 b hb
theorem UP_row (h : UP k N M D φ ψ own up G R P S T) (hR : RDR k N M D φ ψ own G R P q S T) (hI : INN N inn T) (t1 : ∀ m c, m < N → c = 626 ∨ c = 627 ∨ c = 630 → ¬ (c = 627 ∧ m = R D) → T2.1 c (3840 + m) = T.1 c (3840 + m)) (t2 : T2.1 627 (3840 + R D) = (N : Int)) (t3 : T2.1 626 (3840 + N) = -1 ∧ T2.1 627 (3840 + N) = -1) (s1 : ∀ b, b < M → S2.1 (k + 4) b = S.1 (k + 4) b) (s2 : S2.1 (k + 4) M < (M : Int)) : UP k (N + 1) (M + 1) D (nup φ (R D) M) (nup ψ (R D) M) (nup own M (R D)) (nup up N (G D)) G (nup R D N) (iup P D (-1)) S2 T2 := by
  have h8 := (hR.2.2.2.2.1 D (Nat.le_refl _)).2.2.1.2.1
  obtain ⟨_, hG, _, _, ho, hn⟩ := hR
  have gD := hG D (Nat.le_refl _)
  have hPN : ∀ i t, i ≤ D → P i = ((t : Nat) : Int) → t < N := fun i t hi ht => by
    rcases (ho i hi).2.1 with ⟨z, _⟩ | ⟨t', u, z1, ⟨z2, _⟩, _⟩
    · omega
    · have := z2.1
      omega
  have lk := UP_lk (n := N) (up' := nup up N (G D)) (rc := 627) (s0 := R D) h hI (fun t ht => nup_ne (by omega)) gD.2.1 (by
    rw [nup_eq]
    exact Or.inr ⟨rfl, (h.2.1 D (Nat.le_refl _)).1.symm⟩) t1 t2 h8
  have cs : ∀ t, clo (N + 1) D G (nup R D N) t ↔ clo N D G R t ∨ t = R D := fun t => by
    constructor
    · rintro ⟨z1, z2⟩
      by_cases e : t = R D
      · exact Or.inr e
      · have e1 : t ≠ N := fun z => z2 ⟨D, Nat.le_refl _, Or.inr (by rw [nup_eq, z])⟩
        refine Or.inl ⟨by omega, fun ⟨i, hi, z⟩ => z2 ⟨i, hi, ?_⟩⟩
        by_cases e2 : i = D
        · subst e2
          rcases z with z | z
          · exact Or.inl z
          · exact absurd z e
        · rw [nup_ne e2]
          exact z
    · rintro (⟨z1, z2⟩ | z)
      · refine ⟨by omega, fun ⟨i, hi, z⟩ => ?_⟩
        by_cases e2 : i = D
        · subst e2
          rw [nup_eq] at z
          rcases z with z | z
          · exact z2 ⟨i, hi, Or.inl z⟩
          · omega
        · rw [nup_ne e2] at z
          exact z2 ⟨i, hi, z⟩
      · subst z
        refine ⟨by omega, fun ⟨i, hi, z⟩ => ?_⟩
        have a := (hG i hi).2.2 D (Nat.le_refl _)
        by_cases e2 : i = D
        · subst e2
          rw [nup_eq] at z
          rcases z with z | z
          · exact a.1 z.symm
          · omega
        · rw [nup_ne e2] at z
          rcases z with z | z
          · exact a.1 z.symm
          · exact (a.2 e2).2 z.symm
  have nR : ∀ t, clo N D G R t → t ≠ R D := fun t ht z => ht.2 ⟨D, Nat.le_refl _, Or.inr z⟩
  obtain ⟨⟨a1, a2, a3, a8⟩, a4, a5, a6, a7⟩ := h
  refine ⟨⟨fun t ht => ?_, fun m t hm ht => ?_, fun m t hm ht => ?_, fun t h0 ht => (lk.2.2 t h0 (by omega)).imp_right fun ⟨s, z1, z2, z3⟩ => ⟨s, by omega, z2, z3⟩⟩, fun i hi => ?_, fun t ht hu h0 => ?_, fun b hb => ?_, fun b hb => ?_⟩
  · by_cases e2 : t = N
    · rw [e2, nup_eq]
      omega
    · rw [nup_ne e2]
      have := a1 t (by omega)
      omega
  · by_cases e : m = N
    · rw [e, t3.1] at ht
      omega
    · exact lk.1 m t (by omega) ht
  · by_cases e : m = N
    · rw [e, t3.2] at ht
      omega
    · exact lk.2.1 m t (by omega) ht
  · by_cases e : i = D
    · subst e
      rw [nup_eq, nup_eq, iup_eq]
      exact ⟨rfl, fun t ht => by omega, fun z => by omega⟩
    · have gi := hG i hi
      rw [nup_ne e, iup_ne e, nup_ne (show R i ≠ N by omega)]
      refine ⟨(a4 i hi).1, fun t ht => ?_, fun hi2 => ?_⟩
      · rw [nup_ne (by have := hPN i t hi ht; omega)]
        exact (a4 i hi).2.1 t ht
      · rw [nup_ne (by have := (hG (i + 1) (by omega)).1; omega)]
        exact (a4 i hi).2.2 hi2
  · rcases (cs t).mp ht with z | z
    · have tN := z.1
      rw [show nup up N (G D) t = up t from nup_ne (by omega)] at hu ⊢
      rw [nup_ne (nR t z)]
      rcases (cs _).mp hu with y | y
      · rw [nup_ne (nR _ y)]
        exact a5 t z y h0
      · rw [y, nup_eq]
        exact (hn t z).1.2.1
    · rw [z, nup_ne (by omega), (a4 D (Nat.le_refl _)).1] at hu
      rcases (cs _).mp hu with y | y
      · exact absurd ⟨D, Nat.le_refl _, Or.inl rfl⟩ y.2
      · exact absurd y ((gD.2.2 D (Nat.le_refl _)).1)
  · by_cases e : b = M
    · rw [e, nup_eq]
      exact ⟨(cs _).mpr (Or.inr rfl), Or.inl (by rw [nup_eq])⟩
    · have q := a6 b (by omega)
      rw [nup_ne e, nup_ne (nR _ q.1), nup_ne (nR _ q.1)]
      exact ⟨(cs _).mpr (Or.inl q.1), q.2.imp_right (Or.imp_right fun z => HLP_c z (nup_ne (nR _ q.1)) (hn _ q.1).1.2.1 a7 s1 (t1 _ _ q.1.1 (by omega) (by omega)))⟩
  · by_cases e : b = M
    · rw [e]
      exact s2
    · rw [s1 b (by omega)]
      exact a7 b (by omega)
theorem UP_close (h : UP k N M (D + 1) φ ψ own up G R P S T) (hR : RDR k N M (D + 1) φ ψ own G R P q S T) (t1 : ∀ m c, m < N → c = 626 ∨ c = 627 ∨ c = 630 → T2.1 c (3840 + m) = T.1 c (3840 + m)) (s1 : ∀ b, b < M → S2.1 (k + 4) b = S.1 (k + 4) b) (s2 : S2.1 (k + 4) M < (M : Int) ∧ S2.1 (k + 4) (M + 1) < (M : Int) + 1) : UP k N (M + 2) D (nup (nup φ (R (D + 1)) M) (G (D + 1)) (M + 1)) (nup (nup ψ (R (D + 1)) M) (G (D + 1)) (M + 1)) (nup (nup own M (R (D + 1))) (M + 1) (G (D + 1))) up G R (iup P D (G (D + 1) : Int)) S2 T2 := by
  obtain ⟨_, hG, _, _, ho, hn⟩ := hR
  have gD := hG (D + 1) (Nat.le_refl _)
  have gr := (gD.2.2 (D + 1) (Nat.le_refl _)).1
  have cs : ∀ t, clo N D G R t ↔ (clo N (D + 1) G R t ∨ t = G (D + 1) ∨ t = R (D + 1)) := fun t => by
    unfold clo isOp
    constructor
    · rintro ⟨z1, z2⟩
      by_cases e1 : t = G (D + 1)
      · exact Or.inr (Or.inl e1)
      · by_cases e2 : t = R (D + 1)
        · exact Or.inr (Or.inr e2)
        · refine Or.inl ⟨z1, ?_⟩
          rintro ⟨i, hi, z3⟩
          by_cases e3 : i = D + 1
          · subst e3
            omega
          · exact z2 ⟨i, by omega, z3⟩
    · rintro (⟨z1, z2⟩ | rfl | rfl)
      · exact ⟨z1, fun ⟨i, hi, z3⟩ => z2 ⟨i, by omega, z3⟩⟩
      · refine ⟨gD.1, ?_⟩
        rintro ⟨i, hi, z3⟩
        have a := hG i (by omega)
        have b := (gD.2.2 i (by omega))
        have c := b.2 (by omega)
        rcases z3 with z3 | z3
        · exact c.1 z3
        · exact b.1 z3
      · refine ⟨gD.2.1, ?_⟩
        rintro ⟨i, hi, z3⟩
        have a := (hG i (by omega)).2.2 (D + 1) (Nat.le_refl _)
        have c := a.2 (by omega)
        rcases z3 with z3 | z3
        · exact a.1 z3.symm
        · exact c.2 z3.symm
  have cr : ∀ t, clo N (D + 1) G R t → t ≠ G (D + 1) ∧ t ≠ R (D + 1) := fun t ht => ⟨fun z => ht.2 ⟨D + 1, Nat.le_refl _, Or.inl z⟩, fun z => ht.2 ⟨D + 1, Nat.le_refl _, Or.inr z⟩⟩
  have fo : ∀ (f : Nat → Nat) t, clo N (D + 1) G R t → nup (nup f (R (D + 1)) M) (G (D + 1)) (M + 1) t = f t := fun f t ht => by rw [nup_ne (cr t ht).1, nup_ne (cr t ht).2]
  have fr : ∀ (f : Nat → Nat), nup (nup f (R (D + 1)) M) (G (D + 1)) (M + 1) (R (D + 1)) = M := fun f => by rw [nup_ne (fun z => gr z.symm), nup_eq]
  have fg : ∀ (f : Nat → Nat), nup (nup f (R (D + 1)) M) (G (D + 1)) (M + 1) (G (D + 1)) = M + 1 := fun f => nup_eq
  obtain ⟨⟨a1, a2, a3, a8⟩, a4, a5, a6, a7⟩ := h
  refine ⟨⟨a1, fun m t hm ht => a2 m t hm ((t1 m 626 hm (by omega)).symm.trans ht), fun m t hm ht => a3 m t hm ((t1 m 627 hm (by omega)).symm.trans ht), LND_c a8 a1 (fun m c hm hc => t1 m c hm (by omega))⟩, fun i hi => ⟨(a4 i (by omega)).1, fun t ht => ?_, fun hi2 => (a4 i (by omega)).2.2 (by omega)⟩, fun t ht hu h0 => ?_, fun b hb => ?_, fun b hb => ?_⟩
  · by_cases e : i = D
    · subst e
      rw [iup_eq] at ht
      have : t = G (i + 1) := by omega
      rw [this]
      exact (a4 i (by omega)).2.2 (by omega)
    · rw [iup_ne e] at ht
      exact (a4 i (by omega)).2.1 t ht
  · rcases (cs t).mp ht with z | z | z
    · rw [fo ψ t z]
      have pt := (hn t z).1.2.1
      rcases (cs _).mp hu with y | y | y
      · rw [fo φ _ y]
        exact a5 t z y h0
      · rw [y, fg]
        omega
      · rw [y, fr]
        exact pt
    · rw [z, (a4 D (by omega)).2.2 (by omega)] at hu
      exact absurd ⟨D, Nat.le_refl _, Or.inr rfl⟩ hu.2
    · rw [z, (a4 (D + 1) (Nat.le_refl _)).1, fr, fg]
      omega
  · by_cases e : b = M + 1
    · rw [e, nup_eq]
      exact ⟨(cs _).mpr (Or.inr (Or.inl rfl)), Or.inl (by rw [fg])⟩
    · by_cases e2 : b = M
      · rw [e2, nup_ne (by omega), nup_eq]
        exact ⟨(cs _).mpr (Or.inr (Or.inr rfl)), Or.inl (by rw [fr])⟩
      · have q := a6 b (by omega)
        rw [nup_ne e, nup_ne e2, fo φ _ q.1, fo ψ _ q.1]
        exact ⟨(cs _).mpr (Or.inl q.1), q.2.imp_right (Or.imp_right fun z => HLP_c z (fo ψ _ q.1) (hn _ q.1).1.2.1 a7 s1 (t1 _ _ q.1.1 (by omega)))⟩
  · by_cases e : b = M + 1
    · rw [e]
      have := s2.2
      omega
    · by_cases e2 : b = M
      · rw [e2]
        exact s2.1
      · rw [s1 b (by omega)]
        exact a7 b (by omega)
def UPe (k N M D : Nat) (φ ψ own G R : Nat → Nat) (P : Nat → Int) (S T : ev_St) : Prop := ∃ up, UP k N M D φ ψ own up G R P S T ∧ ∃ lo, LO N M D φ ψ up lo G R P T
theorem UPe_c (h : UPe k N M D φ ψ own G R P S T) (hR : RDR k N M D φ ψ own G R P q S T) (s1 : ∀ b, b < M → S2.1 (k + 4) b = S.1 (k + 4) b) (t1 : ∀ m c, m < N → c = 626 ∨ c = 627 ∨ c = 630 → T2.1 c (3840 + m) = T.1 c (3840 + m)) : UPe k N M D φ ψ own G R P S2 T2 := h.elim fun up h => ⟨up, UP_c h.1 (fun t ht => (hR.2.2.2.2.2 t ht).1.2.1) s1 t1, h.2.elim fun lo hl => ⟨lo, LO_c hl hR t1⟩⟩
theorem UL_leaf {s0 rc : Nat} (hU : UPe k N M D φ ψ own G R P S T) (hR : RDR k N M D φ ψ own G R P q S T) (hI : INN N inn T) (hs : s0 < N) (k3 : (P D = -1 ∧ rc = 626 ∧ s0 = R D) ∨ (P D = (s0 : Int) ∧ rc = 627)) (t1 : ∀ m c, m < N → c = 626 ∨ c = 627 ∨ c = 630 → ¬ (c = rc ∧ m = s0) → T2.1 c (3840 + m) = T.1 c (3840 + m)) (t2 : T2.1 rc (3840 + s0) = (N : Int)) (t3 : T2.1 626 (3840 + N) = -1 ∧ T2.1 627 (3840 + N) = -1) (s1 : ∀ b, b < M → S2.1 (k + 4) b = S.1 (k + 4) b) (s2 : S2.1 (k + 4) M = -1) : UPe k (N + 1) (M + 1) D (nup φ N M) (nup ψ N M) (nup own M N) G R (iup P D (N : Int)) S2 T2 := hU.elim fun up h => ⟨_, UP_leaf h.1 hR hI hs k3 t1 t2 t3 s1 s2, h.2.elim fun lo hl => ⟨_, LO_leaf hl h.1 hR hs k3 t1 t2 t3⟩⟩
theorem UL_rep {t j M2 : Nat} {own2 : Nat → Nat} (hU : UPe k N M D φ ψ own G R P S T) (hR : RDR k N M D φ ψ own G R P q S T) (hP : P D = (t : Int)) (h630 : T.1 630 (3840 + t) = -1) (hM : M ≤ M2) (ho : ∀ b, b < M → own2 b = own b) (ho2 : ∀ b, M ≤ b → b < M2 → own2 b = t ∧ (b = j ∨ HLP k (nup ψ t j) S2 T2 t b) ∧ S2.1 (k + 4) b < (b : Int)) (s1 : ∀ b, b < M → S2.1 (k + 4) b = S.1 (k + 4) b) (t1 : ∀ m c, m < N → c = 626 ∨ c = 627 ∨ (c = 630 ∧ m ≠ t) → T2.1 c (3840 + m) = T.1 c (3840 + m)) (hj : j + 1 = M2) (hd : (T2.1 630 (3840 + t) ≠ 2 ∧ M2 = M + 1) ∨ (T2.1 630 (3840 + t) = 2 ∧ M2 = M + 3)) : UPe k N M2 D φ (nup ψ t j) own2 G R P S2 T2 := hU.elim fun up h => ⟨_, UP_rep h.1 hR hP h630 hM ho ho2 s1 t1, h.2.elim fun lo hl => ⟨_, LO_rep hl h.1 hR hP h630 hj hd t1⟩⟩
theorem UL_open {s0 rc : Nat} (hU : UPe k N M D φ ψ own G R P S T) (hR : RDR k N M D φ ψ own G R P q S T) (hI : INN N inn T) (hs : s0 < N) (k3 : (P D = -1 ∧ rc = 626 ∧ s0 = R D) ∨ (P D = (s0 : Int) ∧ rc = 627)) (t1 : ∀ m c, m < N → c = 626 ∨ c = 627 ∨ c = 630 → ¬ (c = rc ∧ m = s0) → T2.1 c (3840 + m) = T.1 c (3840 + m)) (t2 : T2.1 rc (3840 + s0) = (N : Int)) (t3 : T2.1 626 (3840 + N) = (N : Int) + 1 ∧ T2.1 627 (3840 + N) = -1) (t4 : T2.1 626 (3840 + (N + 1)) = -1 ∧ T2.1 627 (3840 + (N + 1)) = -1) (s1 : ∀ b, b < M → S2.1 (k + 4) b = S.1 (k + 4) b) : UPe k (N + 2) M (D + 1) φ ψ own (nup G (D + 1) N) (nup R (D + 1) (N + 1)) (iup P (D + 1) (-1)) S2 T2 := hU.elim fun up h => ⟨_, UP_open h.1 hR hI hs k3 t1 t2 t3 t4 s1, h.2.elim fun lo hl => ⟨_, LO_open hl h.1 hR hs k3 t1 t2 t3 t4⟩⟩
theorem UL_row (hU : UPe k N M D φ ψ own G R P S T) (hR : RDR k N M D φ ψ own G R P q S T) (hI : INN N inn T) (t1 : ∀ m c, m < N → c = 626 ∨ c = 627 ∨ c = 630 → ¬ (c = 627 ∧ m = R D) → T2.1 c (3840 + m) = T.1 c (3840 + m)) (t2 : T2.1 627 (3840 + R D) = (N : Int)) (t3 : T2.1 626 (3840 + N) = -1 ∧ T2.1 627 (3840 + N) = -1) (s1 : ∀ b, b < M → S2.1 (k + 4) b = S.1 (k + 4) b) (s2 : S2.1 (k + 4) M < (M : Int)) : UPe k (N + 1) (M + 1) D (nup φ (R D) M) (nup ψ (R D) M) (nup own M (R D)) G (nup R D N) (iup P D (-1)) S2 T2 := hU.elim fun up h => ⟨_, UP_row h.1 hR hI t1 t2 t3 s1 s2, h.2.elim fun lo hl => ⟨_, LO_row hl h.1 hR t1 t2 t3⟩⟩
theorem UL_close (hU : UPe k N M (D + 1) φ ψ own G R P S T) (hR : RDR k N M (D + 1) φ ψ own G R P q S T) (t1 : ∀ m c, m < N → c = 626 ∨ c = 627 ∨ c = 630 → T2.1 c (3840 + m) = T.1 c (3840 + m)) (s1 : ∀ b, b < M → S2.1 (k + 4) b = S.1 (k + 4) b) (s2 : S2.1 (k + 4) M < (M : Int) ∧ S2.1 (k + 4) (M + 1) < (M : Int) + 1) : UPe k N (M + 2) D (nup (nup φ (R (D + 1)) M) (G (D + 1)) (M + 1)) (nup (nup ψ (R (D + 1)) M) (G (D + 1)) (M + 1)) (nup (nup own M (R (D + 1))) (M + 1) (G (D + 1))) G R (iup P D (G (D + 1) : Int)) S2 T2 := hU.elim fun up h => ⟨_, UP_close h.1 hR t1 s1 s2, h.2.elim fun lo hl => ⟨_, LO_close hl h.1 hR t1⟩⟩
/-- the root ends -/
def UPf (k N M : Nat) (φ ψ own up : Nat → Nat) (S T : ev_St) : Prop := ((∀ t, t < N → up t < N) ∧ (∀ m t : Nat, m < N → T.1 626 (3840 + m) = (t : Int) → up t = m) ∧ (∀ m t : Nat, m < N → T.1 627 (3840 + m) = (t : Int) → up t = up m) ∧ LND N up T) ∧ (∀ t, t < N → t ≠ 0 → ψ t < φ (up t)) ∧ (∀ b, b < M → own b < N ∧ (b = φ (own b) ∨ b = ψ (own b) ∨ HLP k ψ S T (own b) b)) ∧ ∀ b, b < M → S.1 (k + 4) b < (b : Int)
theorem UP_root (h : UP k N M 0 φ ψ own up G R P S T) (hR : RDR k N M 0 φ ψ own G R P q S T) (hG0 : G 0 = 0) (s1 : ∀ b, b < M → S2.1 (k + 4) b = S.1 (k + 4) b) (s2 : S2.1 (k + 4) M < (M : Int) ∧ S2.1 (k + 4) (M + 1) < (M : Int) + 1) : UPf k N (M + 2) (nup (nup φ (R 0) M) 0 (M + 1)) (nup (nup ψ (R 0) M) 0 (M + 1)) (nup (nup own M (R 0)) (M + 1) 0) up S2 T := by
  obtain ⟨_, hG, _, _, ho, hn⟩ := hR
  have gD := hG 0 (Nat.le_refl _)
  rw [hG0] at gD
  have gr : 0 ≠ R 0 := by
    have := (gD.2.2 0 (Nat.le_refl _)).1
    exact this
  have cs : ∀ t, t < N → clo N 0 G R t ∨ t = 0 ∨ t = R 0 := fun t ht => by
    by_cases e1 : t = 0
    · exact Or.inr (Or.inl e1)
    · by_cases e2 : t = R 0
      · exact Or.inr (Or.inr e2)
      · refine Or.inl ⟨ht, ?_⟩
        rintro ⟨i, hi, z3⟩
        have : i = 0 := by omega
        subst this
        omega
  have cr : ∀ t, clo N 0 G R t → t ≠ 0 ∧ t ≠ R 0 := fun t ht => ⟨fun z => ht.2 ⟨0, Nat.le_refl _, Or.inl (by rw [hG0]; exact z)⟩, fun z => ht.2 ⟨0, Nat.le_refl _, Or.inr z⟩⟩
  have fo : ∀ (f : Nat → Nat) t, clo N 0 G R t → nup (nup f (R 0) M) 0 (M + 1) t = f t := fun f t ht => by rw [nup_ne (cr t ht).1, nup_ne (cr t ht).2]
  have fr : ∀ (f : Nat → Nat), nup (nup f (R 0) M) 0 (M + 1) (R 0) = M := fun f => by rw [nup_ne (fun z => gr z.symm), nup_eq]
  have fg : ∀ (f : Nat → Nat), nup (nup f (R 0) M) 0 (M + 1) 0 = M + 1 := fun f => nup_eq
  obtain ⟨⟨a1, a2, a3, a8⟩, a4, a5, a6, a7⟩ := h
  refine ⟨⟨a1, a2, a3, a8⟩, fun t ht h0 => ?_, fun b hb => ?_, fun b hb => ?_⟩
  · rcases cs t ht with z | z | z
    · rw [fo ψ t z]
      have pt := (hn t z).1.2.1
      rcases cs _ (a1 t ht) with y | y | y
      · rw [fo φ _ y]
        exact a5 t z y h0
      · rw [y, fg]
        omega
      · rw [y, fr]
        exact pt
    · exact absurd z h0
    · have u0 : up (R 0) = 0 := by
        have := (a4 0 (Nat.le_refl _)).1
        rw [hG0] at this
        exact this
      rw [z, u0, fr, fg]
      omega
  · by_cases e : b = M + 1
    · rw [e, nup_eq]
      exact ⟨gD.1, Or.inl (by rw [fg])⟩
    · by_cases e2 : b = M
      · rw [e2, nup_ne (by omega), nup_eq]
        exact ⟨gD.2.1, Or.inl (by rw [fr])⟩
      · have q := a6 b (by omega)
        rw [nup_ne e, nup_ne e2, fo φ _ q.1, fo ψ _ q.1]
        exact ⟨q.1.1, q.2.imp_right (Or.imp_right fun z => HLP_c z (fo ψ _ q.1) (hn _ q.1).1.2.1 a7 s1 rfl)⟩
  · by_cases e : b = M + 1
    · rw [e]
      have := s2.2
      omega
    · by_cases e2 : b = M
      · rw [e2]
        exact s2.1
      · rw [s1 b (by omega)]
        exact a7 b (by omega)
end UPS2
