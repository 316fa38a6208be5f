/-! THE READER: where a node's own numbers begin, and how links are nested -/
section LOREL
variable {k N M D : Nat} {φ ψ own inn up lo G R : Nat → Nat} {P q : Nat → Int} {S T S2 T2 : ev_St}
def CLn (N : Nat) (T : ev_St) (x : Nat) : Prop := ∀ u v : Nat, x < u → u < N → v < N → (T.1 626 (3840 + v) = (u : Int) ∨ T.1 627 (3840 + v) = (u : Int)) → x ≤ v
/-- lo: the class's first node within the reference's -/
def LO (N M D : Nat) (φ ψ up lo G R : Nat → Nat) (P : Nat → Int) (T : ev_St) : Prop := (lo 0 = 0 ∧ ∀ m, clo N D G R m → T.1 626 (3840 + m) = -1 → φ m = lo m) ∧ (∀ m t : Nat, m < N → T.1 626 (3840 + m) = (t : Int) → lo t = lo m ∧ t = m + 1 ∧ t < N) ∧ (∀ s t : Nat, s < N → T.1 627 (3840 + s) = (t : Int) → lo t = ψ s + 1 ∧ s < t ∧ t < N) ∧ (∀ s, clo N D G R s → s ≠ 0 → clo N D G R (up s) → T.1 627 (3840 + s) = -1 → φ (up s) = ψ s + 1) ∧ (∀ m, clo N D G R m → ψ m = φ m ∨ (T.1 630 (3840 + m) ≠ 2 ∧ ψ m = φ m + 1) ∨ (T.1 630 (3840 + m) = 2 ∧ ψ m = φ m + 3)) ∧ (∀ i, i ≤ D → (∀ s, clo N D G R s → up s = R i → T.1 627 (3840 + s) = -1 → i = D ∧ P D = (s : Int)) ∧ ∀ s, clo N D G R s → up s = G i → T.1 627 (3840 + s) ≠ -1) ∧ ((P D = -1 → M = lo (R D) ∧ R D + 1 = N) ∧ ∀ t : Nat, P D = (t : Int) → M = ψ t + 1 ∧ R D < t) ∧ (∀ i, i ≤ D → G i < R i ∧ (i < D → R i < G (i + 1))) ∧ (∀ m t u v : Nat, m < N → T.1 627 (3840 + m) = (t : Int) → m < u → u < t → v < N → (T.1 626 (3840 + v) = (u : Int) ∨ T.1 627 (3840 + v) = (u : Int)) → m ≤ v) ∧ ∀ x : Nat, isOp D G R x ∨ P D = (x : Int) → CLn N T x
theorem LO_c (h : LO N M D φ ψ up lo G R P T) (hR : RDR k N M D φ ψ own G R P q S T) (t1 : ∀ m c, m < N → c = 626 ∨ c = 627 ∨ c = 630 → T2.1 c (3840 + m) = T.1 c (3840 + m)) : LO N M D φ ψ up lo G R P T2 := by
  obtain ⟨⟨a0, a1⟩, a2, a3, a4, a5, a6, a7, a8, a9, a10⟩ := h
  have l : ∀ v u : Nat, v < N → (T2.1 626 (3840 + v) = (u : Int) ∨ T2.1 627 (3840 + v) = (u : Int)) → (T.1 626 (3840 + v) = (u : Int) ∨ T.1 627 (3840 + v) = (u : Int)) := fun v u hv hz => by
    rw [t1 v 626 hv (by omega), t1 v 627 hv (by omega)] at hz
    exact hz
  refine ⟨⟨a0, fun m hm hc => a1 m hm ((t1 m 626 hm.1 (by omega)).symm.trans hc)⟩, fun m t hm hc => a2 m t hm ((t1 m 626 hm (by omega)).symm.trans hc), fun s t hs hc => a3 s t hs ((t1 s 627 hs (by omega)).symm.trans hc), fun s hs h0 hu hx => a4 s hs h0 hu ((t1 s 627 hs.1 (by omega)).symm.trans hx), fun m hm => by rw [t1 m 630 hm.1 (by omega)]; exact a5 m hm, fun i hi => ⟨fun s hs hu hx => (a6 i hi).1 s hs hu ((t1 s 627 hs.1 (by omega)).symm.trans hx), fun s hs hu hx => (a6 i hi).2 s hs hu ((t1 s 627 hs.1 (by omega)).symm.trans hx)⟩, a7, a8, fun m t u v hm hx h1 h2 hv hl => a9 m t u v hm ((t1 m 627 hm (by omega)).symm.trans hx) h1 h2 hv (l v u hv hl), fun x hx u v h1 h2 hv hl => a10 x hx u v h1 h2 hv (l v u hv hl)⟩
/-- what is open stands in order -/
theorem LO_ord (h : LO N M D φ ψ up lo G R P T) : ∀ j i, i ≤ j → j ≤ D → G i ≤ G j ∧ R i ≤ R j ∧ G i < R j := fun j => by
  have g := h.2.2.2.2.2.2.2.1
  induction j with
  | zero =>
    intro i hi hj
    obtain rfl : i = 0 := by omega
    exact ⟨Nat.le_refl _, Nat.le_refl _, (g 0 hj).1⟩
  | succ j ih =>
    intro i hi hj
    by_cases e : i = j + 1
    · subst e
      exact ⟨Nat.le_refl _, Nat.le_refl _, (g _ hj).1⟩
    · obtain ⟨x, y, z⟩ := ih i (by omega) (by omega)
      have g1 := (g j (by omega)).2 (by omega)
      have g2 := (g (j + 1) hj).1
      have g3 := (g j (by omega)).1
      omega
theorem LO_s0 {s0 rc : Nat} (h : LO N M D φ ψ up lo G R P T) (k3 : (P D = -1 ∧ rc = 626 ∧ s0 = R D) ∨ (P D = (s0 : Int) ∧ rc = 627)) : R D ≤ s0 ∧ ∀ x, isOp D G R x → x ≤ s0 := by
  have hs : R D ≤ s0 := by
    rcases k3 with ⟨_, _, z⟩ | ⟨z, _⟩
    · omega
    · have := (h.2.2.2.2.2.2.1.2 s0 z).2
      omega
  refine ⟨hs, fun x ⟨i, hi, hx⟩ => ?_⟩
  have o := LO_ord h D i hi (Nat.le_refl _)
  rcases hx with z | z <;> omega
/-- a new node, linked from s0 -/
theorem LO_new {s0 rc N2 : Nat} {lo2 : Nat → Nat} (h : LO N M D φ ψ up lo G R P T) (hs : s0 < N) (k3 : (P D = -1 ∧ rc = 626 ∧ s0 = R D) ∨ (P D = (s0 : Int) ∧ rc = 627)) (h8 : T.1 rc (3840 + s0) = -1) (t1 : ∀ m c, m < N → c = 626 ∨ c = 627 ∨ c = 630 → ¬ (c = rc ∧ m = s0) → T2.1 c (3840 + m) = T.1 c (3840 + m)) (t2 : T2.1 rc (3840 + s0) = (N : Int)) (hN2 : N < N2) (h1 : ∀ t, t < N → lo2 t = lo t) (h2 : lo2 N = M) : (∀ m t : Nat, m < N → T2.1 626 (3840 + m) = (t : Int) → lo2 t = lo2 m ∧ t = m + 1 ∧ t < N2) ∧ (∀ s t : Nat, s < N → T2.1 627 (3840 + s) = (t : Int) → lo2 t = ψ s + 1 ∧ s < t ∧ t < N2) ∧ (∀ v u : Nat, v < N → (T2.1 626 (3840 + v) = (u : Int) ∨ T2.1 627 (3840 + v) = (u : Int)) → (T.1 626 (3840 + v) = (u : Int) ∨ T.1 627 (3840 + v) = (u : Int)) ∨ (v = s0 ∧ u = N)) ∧ (∀ m t u v : Nat, m < N → T2.1 627 (3840 + m) = (t : Int) → m < u → u < t → v < N → (T2.1 626 (3840 + v) = (u : Int) ∨ T2.1 627 (3840 + v) = (u : Int)) → m ≤ v) := by
  obtain ⟨⟨a0, a1⟩, a2, a3, a4, a5, a6, a7, a8, a9, a10⟩ := h
  have lk : ∀ v u : Nat, v < N → (T2.1 626 (3840 + v) = (u : Int) ∨ T2.1 627 (3840 + v) = (u : Int)) → (T.1 626 (3840 + v) = (u : Int) ∨ T.1 627 (3840 + v) = (u : Int)) ∨ (v = s0 ∧ u = N) := fun v u hv hz => by
    rcases hz with z | z
    · by_cases e : 626 = rc ∧ v = s0
      · rw [e.2, e.1, t2] at z
        exact Or.inr ⟨e.2, by omega⟩
      · exact Or.inl (Or.inl ((t1 v 626 hv (by omega) e).symm.trans z))
    · by_cases e : 627 = rc ∧ v = s0
      · rw [e.2, e.1, t2] at z
        exact Or.inr ⟨e.2, by omega⟩
      · exact Or.inl (Or.inr ((t1 v 627 hv (by omega) e).symm.trans z))
  refine ⟨fun m t hm hc => ?_, fun s t hs' hc => ?_, lk, fun m t u v hm hx hu1 hu2 hv hl => ?_⟩
  · by_cases e : 626 = rc ∧ m = s0
    · rw [e.2, e.1, t2] at hc
      have et : t = N := by omega
      rcases k3 with ⟨z, _, z2⟩ | ⟨_, z⟩
      · obtain ⟨f1, f2⟩ := a7.1 z
        rw [et, h2, e.2, h1 s0 hs, z2]
        exact ⟨f1, by omega, hN2⟩
      · omega
    · have q := a2 m t hm ((t1 m 626 hm (by omega) e).symm.trans hc)
      rw [h1 t q.2.2, h1 m hm]
      exact ⟨q.1, q.2.1, by omega⟩
  · by_cases e : 627 = rc ∧ s = s0
    · rw [e.2, e.1, t2] at hc
      have et : t = N := by omega
      rcases k3 with ⟨_, z, _⟩ | ⟨z, _⟩
      · omega
      · rw [et, h2, e.2]
        exact ⟨(a7.2 s0 z).1, hs, hN2⟩
    · have q := a3 s t hs' ((t1 s 627 hs' (by omega) e).symm.trans hc)
      rw [h1 t q.2.2]
      exact ⟨q.1, q.2.1, by omega⟩
  · by_cases e : 627 = rc ∧ m = s0
    · rw [e.2, e.1, t2] at hx
      rcases k3 with ⟨_, z, _⟩ | ⟨z, _⟩
      · omega
      · rcases lk v u hv hl with y | ⟨_, y⟩
        · rw [e.2] at hu1 ⊢
          exact a10 s0 (Or.inr z) u v hu1 (by omega) hv y
        · omega
    · have hx' := (t1 m 627 hm (by omega) e).symm.trans hx
      have q := a3 m t hm hx'
      rcases lk v u hv hl with y | ⟨_, y⟩
      · exact a9 m t u v hm hx' hu1 hu2 hv y
      · omega
theorem LO_leaf {s0 rc : Nat} (h : LO N M D φ ψ up lo G R P T) (hU : UP k N M D φ ψ own up G R P S T) (hR : RDR k N M D φ ψ own G R P q S T) (hs : s0 < N) (k3 : (P D = -1 ∧ rc = 626 ∧ s0 = R D) ∨ (P D = (s0 : Int) ∧ rc = 627)) (t1 : ∀ m c, m < N → c = 626 ∨ c = 627 ∨ c = 630 → ¬ (c = rc ∧ m = s0) → T2.1 c (3840 + m) = T.1 c (3840 + m)) (t2 : T2.1 rc (3840 + s0) = (N : Int)) (t3 : T2.1 626 (3840 + N) = -1 ∧ T2.1 627 (3840 + N) = -1) : LO (N + 1) (M + 1) D (nup φ N M) (nup ψ N M) (nup up N (R D)) (nup lo N M) G R (iup P D (N : Int)) T2 := by
  have h8 := lk_m1 hR k3
  have hs0 := LO_s0 h k3
  obtain ⟨n1, n2, lk, n3⟩ := LO_new (N2 := N + 1) (lo2 := nup lo N M) h hs k3 h8 t1 t2 (by omega) (fun t ht => nup_ne (by omega)) nup_eq
  have hG := hR.2.1
  have gD := hG D (Nat.le_refl _)
  have uN := hU.1.1
  have cs : ∀ t, clo (N + 1) D G R t ↔ clo N D G R t ∨ t = N := fun t => clo_s (fun i hi => ⟨(hG i hi).1, (hG i hi).2.1⟩)
  obtain ⟨⟨a0, a1⟩, a2, a3, a4, a5, a6, a7, a8, a9, a10⟩ := h
  -- a link of an old node that is none was none
  have x1 : ∀ s, s < N → T2.1 627 (3840 + s) = -1 → T.1 627 (3840 + s) = -1 ∧ ¬ (627 = rc ∧ s = s0) := fun s hs' hx => by
    by_cases e : 627 = rc ∧ s = s0
    · rw [e.2, e.1, t2] at hx
      omega
    · exact ⟨(t1 s 627 hs' (by omega) e).symm.trans hx, e⟩
  have c1 : ∀ m, m < N → T2.1 626 (3840 + m) = -1 → T.1 626 (3840 + m) = -1 := fun m hm hx => by
    by_cases e : 626 = rc ∧ m = s0
    · rw [e.2, e.1, t2] at hx
      omega
    · exact (t1 m 626 hm (by omega) e).symm.trans hx
  have nl : ∀ u : Nat, ¬ (T2.1 626 (3840 + N) = (u : Int) ∨ T2.1 627 (3840 + N) = (u : Int)) := fun u hz => by
    rw [t3.1, t3.2] at hz
    omega
  refine ⟨⟨by rw [nup_ne (by omega)]; exact a0, fun m hm hc => ?_⟩, fun m t hm hc => ?_, fun s t hs' hc => ?_, fun s hs' h0 hu hx => ?_, fun m hm => ?_, fun i hi => ⟨fun s hs' hu hx => ?_, fun s hs' hu hx => ?_⟩, ⟨fun z => ?_, fun t ht => ?_⟩, a8, fun m t u v hm hx hu1 hu2 hv hl => ?_, fun x hx u v hu1 hu2 hv hl => ?_⟩
  · rcases (cs m).mp hm with z | z
    · have := z.1
      rw [nup_ne (by omega), nup_ne (by omega)]
      exact a1 m z (c1 m this hc)
    · rw [z, nup_eq, nup_eq]
  · by_cases e : m = N
    · rw [e, t3.1] at hc
      omega
    · exact n1 m t (by omega) hc
  · by_cases e : s = N
    · rw [e, t3.2] at hc
      omega
    · rw [show nup ψ N M s = ψ s from nup_ne e]
      exact n2 s t (by omega) hc
  · rcases (cs s).mp hs' with z | z
    · have sN := z.1
      rw [show nup up N (R D) s = up s from nup_ne (by omega)] at hu ⊢
      have := uN s sN
      rcases (cs _).mp hu with y | y
      · rw [nup_ne (by omega), nup_ne (by omega)]
        exact a4 s z h0 y (x1 s sN hx).1
      · omega
    · rw [z, nup_eq] at hu
      exact absurd ⟨D, Nat.le_refl _, Or.inr rfl⟩ hu.2
  · rcases (cs m).mp hm with z | z
    · have := z.1
      rw [nup_ne (by omega), nup_ne (by omega), t1 m 630 this (by omega) (by rcases k3 with ⟨_, y, _⟩ | ⟨_, y⟩ <;> omega)]
      exact a5 m z
    · rw [z, nup_eq, nup_eq]
      exact Or.inl rfl
  · rcases (cs s).mp hs' with z | z
    · have sN := z.1
      rw [nup_ne (by omega)] at hu
      obtain ⟨y1, y2⟩ := x1 s sN hx
      obtain ⟨w1, w2⟩ := (a6 i hi).1 s z hu y1
      rcases k3 with ⟨y, _⟩ | ⟨y, y'⟩
      · omega
      · exact absurd ⟨y'.symm, by omega⟩ y2
    · rw [z, nup_eq] at hu
      have e : i = D := Classical.byContradiction fun e => ((hG i hi).2.2 D (Nat.le_refl _)).2 e |>.2 hu.symm
      exact ⟨e, by rw [iup_eq, z]⟩
  · rcases (cs s).mp hs' with z | z
    · have sN := z.1
      rw [nup_ne (by omega)] at hu
      exact (a6 i hi).2 s z hu (x1 s sN hx).1
    · rw [z, nup_eq] at hu
      exact ((hG i hi).2.2 D (Nat.le_refl _)).1 hu.symm
  · rw [iup_eq] at z
    omega
  · rw [iup_eq] at ht
    have : t = N := by omega
    rw [this, nup_eq]
    exact ⟨rfl, gD.2.1⟩
  · by_cases e : m = N
    · rw [e, t3.2] at hx
      omega
    · by_cases e2 : v = N
      · rw [e2] at hl
        exact absurd hl (nl u)
      · exact n3 m t u v (by omega) hx hu1 hu2 (by omega) hl
  · by_cases e2 : v = N
    · rw [e2] at hl
      exact absurd hl (nl u)
    · rcases hx with hx | hx
      · rcases lk v u (by omega) hl with y | ⟨y1, y2⟩
        · have : u < N := by
            rcases y with y | y
            · exact (a2 v u (by omega) y).2.2
            · exact (a3 v u (by omega) y).2.2
          exact a10 x (Or.inl hx) u v hu1 this (by omega) y
        · rw [y1]
          exact hs0.2 x hx
      · rw [iup_eq] at hx
        omega
theorem LO_rep {t j M2 : Nat} (h : LO N M D φ ψ up lo G R P T) (hU : UP k N M D φ ψ own up G R P S T) (hR : RDR k N M D φ ψ own G R P q S T) (hP : P D = (t : Int)) (h630 : T.1 630 (3840 + t) = -1) (hj : j + 1 = M2) (hd : (T2.1 630 (3840 + t) ≠ 2 ∧ M2 = M + 1) ∨ (T2.1 630 (3840 + t) = 2 ∧ M2 = M + 3)) (t1 : ∀ m c, m < N → c = 626 ∨ c = 627 ∨ (c = 630 ∧ m ≠ t) → T2.1 c (3840 + m) = T.1 c (3840 + m)) : LO N M2 D φ (nup ψ t j) up lo G R P T2 := by
  have nx : nxt D G D = -1 := if_neg (Nat.lt_irrefl _)
  obtain ⟨ct, xt⟩ : clo N D G R t ∧ T.1 627 (3840 + t) = -1 := by
    rcases (hR.2.2.2.2.1 D (Nat.le_refl _)).2.1 with ⟨z, _⟩ | ⟨t', u, z1, ⟨z2, _, z4, _⟩, _⟩
    · omega
    · have : t' = t := by omega
      rw [this] at z2 z4
      rw [nx] at z4
      exact ⟨z2, z4⟩
  have et : ψ t = φ t := by
    rcases (hR.2.2.2.2.2 t ct).2.2.1 with ⟨_, z⟩ | ⟨⟨z, _⟩, _⟩ | ⟨⟨z, _⟩, _⟩
    · exact z
    · omega
    · omega
  obtain ⟨⟨a0, a1⟩, a2, a3, a4, a5, a6, a7, a8, a9, a10⟩ := h
  obtain ⟨f1, f2⟩ := a7.2 t hP
  have l : ∀ v u : Nat, v < N → (T2.1 626 (3840 + v) = (u : Int) ∨ T2.1 627 (3840 + v) = (u : Int)) → (T.1 626 (3840 + v) = (u : Int) ∨ T.1 627 (3840 + v) = (u : Int)) := fun v u hv hz => by
    rw [t1 v 626 hv (by omega), t1 v 627 hv (by omega)] at hz
    exact hz
  refine ⟨⟨a0, fun m hm hc => a1 m hm ((t1 m 626 hm.1 (by omega)).symm.trans hc)⟩, fun m t' hm hc => a2 m t' hm ((t1 m 626 hm (by omega)).symm.trans hc), fun s t' hs hc => ?_, fun s hs h0 hu hx => ?_, fun m hm => ?_, fun i hi => ⟨fun s hs hu hx => (a6 i hi).1 s hs hu ((t1 s 627 hs.1 (by omega)).symm.trans hx), fun s hs hu hx => (a6 i hi).2 s hs hu ((t1 s 627 hs.1 (by omega)).symm.trans hx)⟩, ⟨fun z => by omega, fun t' ht' => ?_⟩, a8, fun m t' u v hm hx h1 h2 hv hl => a9 m t' u v hm ((t1 m 627 hm (by omega)).symm.trans hx) h1 h2 hv (l v u hv hl), fun x hx u v h1 h2 hv hl => a10 x hx u v h1 h2 hv (l v u hv hl)⟩
  · have hc' := (t1 s 627 hs (by omega)).symm.trans hc
    by_cases e : s = t
    · rw [e, xt] at hc'
      omega
    · rw [nup_ne e]
      exact a3 s t' hs hc'
  · have hx' := (t1 s 627 hs.1 (by omega)).symm.trans hx
    by_cases e : s = t
    · have u1 := ((hU.2.1 D (Nat.le_refl _)).2.1 t hP)
      rw [e, u1] at hu
      exact absurd ⟨D, Nat.le_refl _, Or.inr rfl⟩ hu.2
    · rw [nup_ne e]
      exact a4 s hs h0 hu hx'
  · by_cases e : m = t
    · rw [e, nup_eq]
      rcases hd with ⟨z1, z2⟩ | ⟨z1, z2⟩
      · exact Or.inr (Or.inl ⟨z1, by omega⟩)
      · exact Or.inr (Or.inr ⟨z1, by omega⟩)
    · rw [nup_ne e, t1 m 630 hm.1 (by omega)]
      exact a5 m hm
  · have : t' = t := by omega
    rw [this, nup_eq]
    exact ⟨hj.symm, f2⟩
theorem clo_open (hG : ∀ i, i ≤ D → G i < N ∧ R i < N) {t : Nat} : clo (N + 2) (D + 1) (nup G (D + 1) N) (nup R (D + 1) (N + 1)) t ↔ clo N D G R t := by
  constructor
  · rintro ⟨z1, z2⟩
    have e1 : t ≠ N := fun z => z2 ⟨D + 1, Nat.le_refl _, Or.inl (by rw [nup_eq, z])⟩
    have e2 : t ≠ N + 1 := fun z => z2 ⟨D + 1, Nat.le_refl _, Or.inr (by rw [nup_eq, z])⟩
    refine ⟨by omega, fun ⟨i, hi, z⟩ => z2 ⟨i, by omega, ?_⟩⟩
    rw [nup_ne (by omega), nup_ne (by omega)]
    exact z
  · rintro ⟨z1, z2⟩
    refine ⟨by omega, fun ⟨i, hi, z⟩ => ?_⟩
    by_cases e : i = D + 1
    · subst e
      rw [nup_eq, nup_eq] at z
      omega
    · rw [nup_ne e, nup_ne e] at z
      exact z2 ⟨i, by omega, z⟩
theorem LO_open {s0 rc : Nat} (h : LO N M D φ ψ up lo G R P T) (hU : UP k N M D φ ψ own up G R P S T) (hR : RDR k N M D φ ψ own G R P q S T) (hs : s0 < N) (k3 : (P D = -1 ∧ rc = 626 ∧ s0 = R D) ∨ (P D = (s0 : Int) ∧ rc = 627)) (t1 : ∀ m c, m < N → c = 626 ∨ c = 627 ∨ c = 630 → ¬ (c = rc ∧ m = s0) → T2.1 c (3840 + m) = T.1 c (3840 + m)) (t2 : T2.1 rc (3840 + s0) = (N : Int)) (t3 : T2.1 626 (3840 + N) = (N : Int) + 1 ∧ T2.1 627 (3840 + N) = -1) (t4 : T2.1 626 (3840 + (N + 1)) = -1 ∧ T2.1 627 (3840 + (N + 1)) = -1) : LO (N + 2) M (D + 1) φ ψ (nup (nup up N (R D)) (N + 1) N) (nup (nup lo N M) (N + 1) M) (nup G (D + 1) N) (nup R (D + 1) (N + 1)) (iup P (D + 1) (-1)) T2 := by
  have h8 := lk_m1 hR k3
  have hs0 := LO_s0 h k3
  have ll : ∀ t, t < N → nup (nup lo N M) (N + 1) M t = lo t := fun t ht => by rw [nup_ne (by omega), nup_ne (by omega)]
  have lu : ∀ t, t < N → nup (nup up N (R D)) (N + 1) N t = up t := fun t ht => by rw [nup_ne (by omega), nup_ne (by omega)]
  have lN : nup (nup lo N M) (N + 1) M N = M := by rw [nup_ne (by omega), nup_eq]
  obtain ⟨n1, n2, lk, n3⟩ := LO_new (N2 := N + 2) (lo2 := nup (nup lo N M) (N + 1) M) h hs k3 h8 t1 t2 (by omega) ll lN
  have hG := hR.2.1
  have gD := hG D (Nat.le_refl _)
  have uN := hU.1.1
  have cs : ∀ t, clo (N + 2) (D + 1) (nup G (D + 1) N) (nup R (D + 1) (N + 1)) t ↔ clo N D G R t := fun t => clo_open (fun i hi => ⟨(hG i hi).1, (hG i hi).2.1⟩)
  obtain ⟨⟨a0, a1⟩, a2, a3, a4, a5, a6, a7, a8, a9, a10⟩ := h
  have x1 : ∀ s, s < N → T2.1 627 (3840 + s) = -1 → T.1 627 (3840 + s) = -1 ∧ ¬ (627 = rc ∧ s = s0) := fun s hs' hx => by
    by_cases e : 627 = rc ∧ s = s0
    · rw [e.2, e.1, t2] at hx
      omega
    · exact ⟨(t1 s 627 hs' (by omega) e).symm.trans hx, e⟩
  have c1 : ∀ m, m < N → T2.1 626 (3840 + m) = -1 → T.1 626 (3840 + m) = -1 := fun m hm hx => by
    by_cases e : 626 = rc ∧ m = s0
    · rw [e.2, e.1, t2] at hx
      omega
    · exact (t1 m 626 hm (by omega) e).symm.trans hx
  have nl : ∀ v u : Nat, N ≤ v → v < N + 2 → (T2.1 626 (3840 + v) = (u : Int) ∨ T2.1 627 (3840 + v) = (u : Int)) → v = N ∧ u = N + 1 := fun v u h1 h2 hz => by
    by_cases e : v = N
    · rw [e, t3.1, t3.2] at hz
      omega
    · have : v = N + 1 := by omega
      rw [this, t4.1, t4.2] at hz
      omega
  refine ⟨⟨by rw [ll 0 (by omega)]; exact a0, fun m hm hc => ?_⟩, fun m t hm hc => ?_, fun s t hs' hc => ?_, fun s hs' h0 hu hx => ?_, fun m hm => ?_, fun i hi => ⟨fun s hs' hu hx => ?_, fun s hs' hu hx => ?_⟩, ⟨fun z => ?_, fun t ht => ?_⟩, fun i hi => ?_, fun m t u v hm hx hu1 hu2 hv hl => ?_, fun x hx u v hu1 hu2 hv hl => ?_⟩
  · have z := (cs m).mp hm
    rw [ll m z.1]
    exact a1 m z (c1 m z.1 hc)
  · by_cases e : m < N
    · exact n1 m t e hc
    · obtain ⟨e1, e2⟩ := nl m t (by omega) hm (Or.inl hc)
      rw [e1, e2, lN, nup_eq]
      exact ⟨rfl, rfl, by omega⟩
  · by_cases e : s < N
    · exact n2 s t e hc
    · obtain ⟨e1, e2⟩ := nl s t (by omega) hs' (Or.inr hc)
      rw [e1, t3.2] at hc
      omega
  · have z := (cs s).mp hs'
    rw [lu s z.1] at hu ⊢
    exact a4 s z h0 ((cs _).mp hu) (x1 s z.1 hx).1
  · have z := (cs m).mp hm
    rw [t1 m 630 z.1 (by omega) (by rcases k3 with ⟨_, y, _⟩ | ⟨_, y⟩ <;> omega)]
    exact a5 m z
  · have z := (cs s).mp hs'
    have sN := z.1
    have us := uN s sN
    rw [lu s sN] at hu
    by_cases e : i = D + 1
    · rw [e, nup_eq] at hu
      omega
    · rw [nup_ne e] at hu
      obtain ⟨y1, y2⟩ := x1 s sN hx
      obtain ⟨w1, w2⟩ := (a6 i (by omega)).1 s z hu y1
      rcases k3 with ⟨y, _⟩ | ⟨y, y'⟩
      · omega
      · exact absurd ⟨y'.symm, by omega⟩ y2
  · have z := (cs s).mp hs'
    have sN := z.1
    have us := uN s sN
    rw [lu s sN] at hu
    by_cases e : i = D + 1
    · rw [e, nup_eq] at hu
      omega
    · rw [nup_ne e] at hu
      exact (a6 i (by omega)).2 s z hu (x1 s sN hx).1
  · rw [nup_eq, nup_eq]
    exact ⟨rfl, rfl⟩
  · rw [iup_eq] at ht
    omega
  · by_cases e : i = D + 1
    · rw [e, nup_eq, nup_eq]
      exact ⟨by omega, fun z => absurd z (by omega)⟩
    · rw [nup_ne e, nup_ne e]
      refine ⟨(a8 i (by omega)).1, fun z => ?_⟩
      by_cases e2 : i = D
      · rw [e2, nup_eq]
        exact gD.2.1
      · rw [nup_ne (by omega)]
        exact (a8 i (by omega)).2 (by omega)
  · by_cases e : m < N
    · by_cases e2 : v < N
      · exact n3 m t u v e hx hu1 hu2 e2 hl
      · omega
    · obtain ⟨e1, e2⟩ := nl m t (by omega) hm (Or.inr hx)
      rw [e1, t3.2] at hx
      omega
  · have key : isOp D G R x → x ≤ v := fun hx' => by
      by_cases e2 : v < N
      · rcases lk v u e2 hl with y | ⟨y1, y2⟩
        · have hu3 : u < N := by
            rcases y with y | y
            · exact (a2 v u e2 y).2.2
            · exact (a3 v u e2 y).2.2
          exact a10 x (Or.inl hx') u v hu1 hu3 e2 y
        · rw [y1]
          exact hs0.2 x hx'
      · obtain ⟨i, hi, hx2⟩ := hx'
        have := hG i hi
        rcases hx2 with z | z <;> omega
    rcases hx with ⟨i, hi, hx⟩ | hx
    · by_cases e : i = D + 1
      · rw [e, nup_eq, nup_eq] at hx
        by_cases e2 : v < N
        · rcases lk v u e2 hl with y | ⟨y1, y2⟩
          · have hu3 : u < N := by
              rcases y with y | y
              · exact (a2 v u e2 y).2.2
              · exact (a3 v u e2 y).2.2
            omega
          · omega
        · omega
      · rw [nup_ne e, nup_ne e] at hx
        exact key ⟨i, by omega, hx⟩
    · rw [iup_eq] at hx
      omega
theorem clo_row2 (hG : ∀ i, i ≤ D → G i < N ∧ R i < N ∧ (∀ j, j ≤ D → G i ≠ R j ∧ (i ≠ j → G i ≠ G j ∧ R i ≠ R j))) {t : Nat} : clo (N + 1) D G (nup R D N) t ↔ clo N D G R t ∨ t = R D := by
  have gD := hG D (Nat.le_refl _)
  constructor
  · rintro ⟨z1, z2⟩
    by_cases e : t = R D
    · exact Or.inr e
    · have e1 : t ≠ N := fun z => z2 ⟨D, Nat.le_refl _, Or.inr (by rw [nup_eq, z])⟩
      refine Or.inl ⟨by omega, fun ⟨i, hi, z⟩ => z2 ⟨i, hi, ?_⟩⟩
      by_cases e2 : i = D
      · subst e2
        rcases z with z | z
        · exact Or.inl z
        · exact absurd z e
      · rw [nup_ne e2]
        exact z
  · rintro (⟨z1, z2⟩ | rfl)
    · refine ⟨by omega, fun ⟨i, hi, z⟩ => ?_⟩
      by_cases e2 : i = D
      · subst e2
        rw [nup_eq] at z
        rcases z with z | z
        · exact z2 ⟨i, hi, Or.inl z⟩
        · omega
      · rw [nup_ne e2] at z
        exact z2 ⟨i, hi, z⟩
    · refine ⟨by omega, fun ⟨i, hi, z⟩ => ?_⟩
      have gi := hG i hi
      by_cases e2 : i = D
      · subst e2
        rw [nup_eq] at z
        rcases z with z | z
        · exact (gi.2.2 i hi).1 z.symm
        · omega
      · rw [nup_ne e2] at z
        rcases z with z | z
        · exact (gi.2.2 D (Nat.le_refl _)).1 z.symm
        · exact ((gi.2.2 D (Nat.le_refl _)).2 e2).2 z.symm
theorem LO_row (h : LO N M D φ ψ up lo G R P T) (hU : UP k N M D φ ψ own up G R P S T) (hR : RDR k N M D φ ψ own G R P q S T) (t1 : ∀ m c, m < N → c = 626 ∨ c = 627 ∨ c = 630 → ¬ (c = 627 ∧ m = R D) → T2.1 c (3840 + m) = T.1 c (3840 + m)) (t2 : T2.1 627 (3840 + R D) = (N : Int)) (t3 : T2.1 626 (3840 + N) = -1 ∧ T2.1 627 (3840 + N) = -1) : LO (N + 1) (M + 1) D (nup φ (R D) M) (nup ψ (R D) M) (nup up N (G D)) (nup lo N (M + 1)) G (nup R D N) (iup P D (-1)) T2 := by
  have ord := LO_ord h
  have hG := hR.2.1
  have gD := hG D (Nat.le_refl _)
  have ho := hR.2.2.2.2.1
  have og := (ho D (Nat.le_refl _)).2.2.1
  have uN := hU.1.1
  have uR := (hU.2.1 D (Nat.le_refl _)).1
  have cs : ∀ t, clo (N + 1) D G (nup R D N) t ↔ clo N D G R t ∨ t = R D := fun t => clo_row2 hG
  have nR : ∀ t, clo N D G R t → t ≠ R D := fun t ht z => ht.2 ⟨D, Nat.le_refl _, Or.inr z⟩
  have nG : ∀ t i, i ≤ D → clo N D G R t → t ≠ G i := fun t i hi ht z => ht.2 ⟨i, hi, Or.inl z⟩
  obtain ⟨⟨a0, a1⟩, a2, a3, a4, a5, a6, a7, a8, a9, a10⟩ := h
  have x1 : ∀ s, s < N → T2.1 627 (3840 + s) = -1 → T.1 627 (3840 + s) = -1 ∧ s ≠ R D := fun s hs' hx => by
    by_cases e : s = R D
    · rw [e, t2] at hx
      omega
    · exact ⟨(t1 s 627 hs' (by omega) (fun z => e z.2)).symm.trans hx, e⟩
  have lk : ∀ v u : Nat, v < N → (T2.1 626 (3840 + v) = (u : Int) ∨ T2.1 627 (3840 + v) = (u : Int)) → (T.1 626 (3840 + v) = (u : Int) ∨ T.1 627 (3840 + v) = (u : Int)) ∨ (v = R D ∧ u = N) := fun v u hv hz => by
    rcases hz with z | z
    · exact Or.inl (Or.inl ((t1 v 626 hv (by omega) (by omega)).symm.trans z))
    · by_cases e : v = R D
      · rw [e, t2] at z
        exact Or.inr ⟨e, by omega⟩
      · exact Or.inl (Or.inr ((t1 v 627 hv (by omega) (fun z => e z.2)).symm.trans z))
  have nl : ∀ u : Nat, ¬ (T2.1 626 (3840 + N) = (u : Int) ∨ T2.1 627 (3840 + N) = (u : Int)) := fun u hz => by
    rw [t3.1, t3.2] at hz
    omega
  have old : ∀ v u : Nat, v < N → (T.1 626 (3840 + v) = (u : Int) ∨ T.1 627 (3840 + v) = (u : Int)) → u < N := fun v u hv y => by
    rcases y with y | y
    · exact (a2 v u hv y).2.2
    · exact (a3 v u hv y).2.2
  have emptyC : T.1 626 (3840 + R D) = -1 → P D = -1 := fun z => by
    rcases (ho D (Nat.le_refl _)).2.1 with ⟨y, _⟩ | ⟨_, u, _, _, ⟨_, _, y, _⟩, _⟩
    · exact y
    · omega
  refine ⟨⟨by rw [nup_ne (by omega)]; exact a0, fun m hm hc => ?_⟩, fun m t hm hc => ?_, fun s t hs' hc => ?_, fun s hs' h0 hu hx => ?_, fun m hm => ?_, fun i hi => ⟨fun s hs' hu hx => ?_, fun s hs' hu hx => ?_⟩, ⟨fun z => ?_, fun t ht => ?_⟩, fun i hi => ?_, fun m t u v hm hx hu1 hu2 hv hl => ?_, fun x hx u v hu1 hu2 hv hl => ?_⟩
  · rcases (cs m).mp hm with z | z
    · rw [nup_ne (nR m z), nup_ne (by have := z.1; omega)]
      exact a1 m z ((t1 m 626 z.1 (by omega) (by omega)).symm.trans hc)
    · rw [z] at hc ⊢
      rw [nup_eq, nup_ne (by omega)]
      exact (a7.1 (emptyC ((t1 _ 626 gD.2.1 (by omega) (by omega)).symm.trans hc))).1
  · by_cases e : m = N
    · rw [e] at hc
      exact absurd (Or.inl hc) (nl t)
    · have q := a2 m t (by omega) ((t1 m 626 (by omega) (by omega) (by omega)).symm.trans hc)
      rw [nup_ne (by omega), nup_ne (by omega)]
      exact ⟨q.1, q.2.1, by omega⟩
  · by_cases e : s = N
    · rw [e] at hc
      exact absurd (Or.inr hc) (nl t)
    · by_cases e2 : s = R D
      · rw [e2, t2] at hc
        have et : t = N := by omega
        rw [et, e2, nup_eq, nup_eq]
        exact ⟨rfl, gD.2.1, by omega⟩
      · have q := a3 s t (by omega) ((t1 s 627 (by omega) (by omega) (fun z => e2 z.2)).symm.trans hc)
        rw [nup_ne (by omega), nup_ne e2]
        exact ⟨q.1, q.2.1, by omega⟩
  · rcases (cs s).mp hs' with z | z
    · have sN := z.1
      obtain ⟨y1, y2⟩ := x1 s sN hx
      rw [show nup up N (G D) s = up s from nup_ne (by omega)] at hu ⊢
      rw [nup_ne y2]
      rcases (cs _).mp hu with w | w
      · rw [nup_ne (nR _ w)]
        exact a4 s z h0 w y1
      · rw [w, nup_eq]
        exact (a7.2 s ((a6 D (Nat.le_refl _)).1 s z w y1).2).1
    · rw [z] at hx
      exact absurd rfl (x1 _ gD.2.1 hx).2
  · rcases (cs m).mp hm with z | z
    · rw [nup_ne (nR m z), nup_ne (nR m z), t1 m 630 z.1 (by omega) (by omega)]
      exact a5 m z
    · rw [z, nup_eq, nup_eq]
      exact Or.inl rfl
  · rcases (cs s).mp hs' with z | z
    · have sN := z.1
      obtain ⟨y1, y2⟩ := x1 s sN hx
      have us := uN s sN
      rw [show nup up N (G D) s = up s from nup_ne (by omega)] at hu
      by_cases e : i = D
      · rw [e, nup_eq] at hu
        omega
      · rw [nup_ne e] at hu
        exact absurd ((a6 i hi).1 s z hu y1).1 e
    · rw [z] at hx
      exact absurd rfl (x1 _ gD.2.1 hx).2
  · rcases (cs s).mp hs' with z | z
    · have sN := z.1
      rw [show nup up N (G D) s = up s from nup_ne (by omega)] at hu
      exact (a6 i hi).2 s z hu (x1 s sN hx).1
    · rw [z] at hx
      exact absurd rfl (x1 _ gD.2.1 hx).2
  · rw [nup_eq, nup_eq]
    exact ⟨rfl, rfl⟩
  · rw [iup_eq] at ht
    omega
  · by_cases e : i = D
    · rw [e, nup_eq]
      exact ⟨gD.1, fun z => absurd z (by omega)⟩
    · rw [nup_ne e]
      exact a8 i hi
  · by_cases e : m = N
    · rw [e] at hx
      exact absurd (Or.inr hx) (nl t)
    · by_cases e2 : v = N
      · rw [e2] at hl
        exact absurd hl (nl u)
      · rcases lk v u (by omega) hl with y | ⟨y1, y2⟩
        · have hu3 := old v u (by omega) y
          by_cases e3 : m = R D
          · rw [e3] at hu1 ⊢
            exact a10 (R D) (Or.inl ⟨D, Nat.le_refl _, Or.inr rfl⟩) u v hu1 hu3 (by omega) y
          · exact a9 m t u v (by omega) ((t1 m 627 (by omega) (by omega) (fun z => e3 z.2)).symm.trans hx) hu1 hu2 (by omega) y
        · by_cases e3 : m = R D
          · omega
          · have := (a3 m t (by omega) ((t1 m 627 (by omega) (by omega) (fun z => e3 z.2)).symm.trans hx)).2.2
            omega
  · by_cases e2 : v = N
    · rw [e2] at hl
      exact absurd hl (nl u)
    · rcases hx with ⟨i, hi, hx⟩ | hx
      · rcases lk v u (by omega) hl with y | ⟨y1, y2⟩
        · have hu3 := old v u (by omega) y
          by_cases e : i = D
          · rw [e, nup_eq] at hx
            rcases hx with z | z
            · exact a10 x (Or.inl ⟨D, Nat.le_refl _, Or.inl z⟩) u v hu1 hu3 (by omega) y
            · omega
          · rw [nup_ne e] at hx
            exact a10 x (Or.inl ⟨i, hi, hx⟩) u v hu1 hu3 (by omega) y
        · have o := ord D i hi (Nat.le_refl _)
          have g := (a8 D (Nat.le_refl _)).1
          by_cases e : i = D
          · rw [e, nup_eq] at hx
            omega
          · rw [nup_ne e] at hx
            rcases hx with z | z <;> omega
      · rw [iup_eq] at hx
        omega
theorem clo_close2 (hG : ∀ i, i ≤ D + 1 → G i < N ∧ R i < N ∧ (∀ j, j ≤ D + 1 → G i ≠ R j ∧ (i ≠ j → G i ≠ G j ∧ R i ≠ R j))) {t : Nat} : clo N D G R t ↔ (clo N (D + 1) G R t ∨ t = G (D + 1) ∨ t = R (D + 1)) := by
  have gD := hG (D + 1) (Nat.le_refl _)
  unfold clo isOp
  constructor
  · rintro ⟨z1, z2⟩
    by_cases e1 : t = G (D + 1)
    · exact Or.inr (Or.inl e1)
    · by_cases e2 : t = R (D + 1)
      · exact Or.inr (Or.inr e2)
      · refine Or.inl ⟨z1, ?_⟩
        rintro ⟨i, hi, z3⟩
        by_cases e3 : i = D + 1
        · subst e3
          omega
        · exact z2 ⟨i, by omega, z3⟩
  · rintro (⟨z1, z2⟩ | rfl | rfl)
    · exact ⟨z1, fun ⟨i, hi, z3⟩ => z2 ⟨i, by omega, z3⟩⟩
    · refine ⟨gD.1, ?_⟩
      rintro ⟨i, hi, z3⟩
      have a := hG i (by omega)
      have b := (gD.2.2 i (by omega))
      have c := b.2 (by omega)
      rcases z3 with z3 | z3
      · exact c.1 z3
      · exact b.1 z3
    · refine ⟨gD.2.1, ?_⟩
      rintro ⟨i, hi, z3⟩
      have a := (hG i (by omega)).2.2 (D + 1) (Nat.le_refl _)
      have c := a.2 (by omega)
      rcases z3 with z3 | z3
      · exact a.1 z3.symm
      · exact c.2 z3.symm
theorem LO_close (h : LO N M (D + 1) φ ψ up lo G R P T) (hU : UP k N M (D + 1) φ ψ own up G R P S T) (hR : RDR k N M (D + 1) φ ψ own G R P q S T) (t1 : ∀ m c, m < N → c = 626 ∨ c = 627 ∨ c = 630 → T2.1 c (3840 + m) = T.1 c (3840 + m)) : LO N (M + 2) D (nup (nup φ (R (D + 1)) M) (G (D + 1)) (M + 1)) (nup (nup ψ (R (D + 1)) M) (G (D + 1)) (M + 1)) up lo G R (iup P D (G (D + 1) : Int)) T2 := by
  have hG := hR.2.1
  have gD := hG (D + 1) (Nat.le_refl _)
  have ho := hR.2.2.2.2.1
  obtain ⟨⟨_, ogR, _, ogG, _⟩, _⟩ := (ho (D + 1) (Nat.le_refl _)).2.2
  have uN := hU.1.1
  have u1 := (hU.2.1 (D + 1) (Nat.le_refl _)).1
  have u2 := (hU.2.1 D (by omega)).2.2 (by omega)
  have cs : ∀ t, clo N D G R t ↔ (clo N (D + 1) G R t ∨ t = G (D + 1) ∨ t = R (D + 1)) := fun t => clo_close2 hG
  have cr : ∀ t, clo N (D + 1) G R t → t ≠ G (D + 1) ∧ t ≠ R (D + 1) := fun t ht => ⟨fun z => ht.2 ⟨D + 1, Nat.le_refl _, Or.inl z⟩, fun z => ht.2 ⟨D + 1, Nat.le_refl _, Or.inr z⟩⟩
  have gr : G (D + 1) ≠ R (D + 1) := (gD.2.2 (D + 1) (Nat.le_refl _)).1
  have fo : ∀ (f : Nat → Nat) t, t ≠ G (D + 1) → t ≠ R (D + 1) → nup (nup f (R (D + 1)) M) (G (D + 1)) (M + 1) t = f t := fun f t h1 h2 => by rw [nup_ne h1, nup_ne h2]
  have fR : ∀ f : Nat → Nat, nup (nup f (R (D + 1)) M) (G (D + 1)) (M + 1) (R (D + 1)) = M := fun f => by rw [nup_ne (fun z => gr z.symm), nup_eq]
  obtain ⟨⟨a0, a1⟩, a2, a3, a4, a5, a6, a7, a8, a9, a10⟩ := h
  have l : ∀ v u : Nat, v < N → (T2.1 626 (3840 + v) = (u : Int) ∨ T2.1 627 (3840 + v) = (u : Int)) → (T.1 626 (3840 + v) = (u : Int) ∨ T.1 627 (3840 + v) = (u : Int)) := fun v u hv hz => by
    rw [t1 v 626 hv (by omega), t1 v 627 hv (by omega)] at hz
    exact hz
  have emptyC : T.1 626 (3840 + R (D + 1)) = -1 → P (D + 1) = -1 := fun z => by
    rcases (ho (D + 1) (Nat.le_refl _)).2.1 with ⟨y, _⟩ | ⟨_, u, _, _, ⟨_, _, y, _⟩, _⟩
    · exact y
    · omega
  have hasC : T.1 626 (3840 + G (D + 1)) ≠ -1 := fun z => by
    rcases (ho (D + 1) (Nat.le_refl _)).1 with ⟨_, y, _⟩ | ⟨_, u, _, _, _, _, y, _⟩ <;> omega
  refine ⟨⟨a0, fun m hm hc => ?_⟩, fun m t hm hc => a2 m t hm ((t1 m 626 hm (by omega)).symm.trans hc), fun s t hs hc => ?_, fun s hs h0 hu hx => ?_, fun m hm => ?_, fun i hi => ⟨fun s hs hu hx => ?_, fun s hs hu hx => ?_⟩, ⟨fun z => ?_, fun t ht => ?_⟩, fun i hi => ⟨(a8 i (by omega)).1, fun z => (a8 i (by omega)).2 (by omega)⟩, fun m t u v hm hx h1 h2 hv hl => a9 m t u v hm ((t1 m 627 hm (by omega)).symm.trans hx) h1 h2 hv (l v u hv hl), fun x hx u v h1 h2 hv hl => a10 x ?_ u v h1 h2 hv (l v u hv hl)⟩
  · have hc' := (t1 m 626 hm.1 (by omega)).symm.trans hc
    rcases (cs m).mp hm with z | z | z
    · rw [fo φ m (cr m z).1 (cr m z).2]
      exact a1 m z hc'
    · rw [z] at hc'
      exact absurd hc' hasC
    · rw [z] at hc' ⊢
      rw [fR]
      exact (a7.1 (emptyC hc')).1
  · have hc' := (t1 s 627 hs (by omega)).symm.trans hc
    rw [fo ψ s (fun z => by rw [z] at hc'; omega) (fun z => by rw [z] at hc'; omega)]
    exact a3 s t hs hc'
  · have hx' := (t1 s 627 hs.1 (by omega)).symm.trans hx
    rcases (cs s).mp hs with z | z | z
    · rw [fo ψ s (cr s z).1 (cr s z).2]
      rcases (cs _).mp hu with y | y | y
      · rw [fo φ _ (cr _ y).1 (cr _ y).2]
        exact a4 s z h0 y hx'
      · exact absurd hx' ((a6 (D + 1) (Nat.le_refl _)).2 s z y)
      · rw [y, fR]
        exact (a7.2 s ((a6 (D + 1) (Nat.le_refl _)).1 s z y hx').2).1
    · rw [z, u2] at hu
      exact absurd ⟨D, Nat.le_refl _, Or.inr rfl⟩ hu.2
    · rw [z, u1, nup_eq, fR]
  · rw [t1 m 630 hm.1 (by omega)]
    rcases (cs m).mp hm with z | z | z
    · rw [fo φ m (cr m z).1 (cr m z).2, fo ψ m (cr m z).1 (cr m z).2]
      exact a5 m z
    · rw [z, nup_eq, nup_eq]
      exact Or.inl rfl
    · rw [z, fR, fR]
      exact Or.inl rfl
  · have hx' := (t1 s 627 hs.1 (by omega)).symm.trans hx
    rcases (cs s).mp hs with z | z | z
    · have := ((a6 i (by omega)).1 s z hu hx').1
      omega
    · rw [z, u2] at hu
      have e : i = D := Classical.byContradiction fun e => (((hG i (by omega)).2.2 D (by omega)).2 e).2 hu.symm
      exact ⟨e, by rw [z, iup_eq]⟩
    · rw [z, u1] at hu
      exact absurd hu ((gD.2.2 i (by omega)).1)
  · have hx' := (t1 s 627 hs.1 (by omega)).symm.trans hx
    rcases (cs s).mp hs with z | z | z
    · exact (a6 i (by omega)).2 s z hu hx'
    · rw [z, u2] at hu
      exact ((hG i (by omega)).2.2 D (by omega)).1 hu.symm
    · rw [z, u1] at hu
      exact ((gD.2.2 i (by omega)).2 (by omega)).1 hu
  · rw [iup_eq] at z
    omega
  · rw [iup_eq] at ht
    have : t = G (D + 1) := by omega
    rw [this, nup_eq]
    exact ⟨rfl, (a8 D (by omega)).2 (by omega)⟩
  · rcases hx with ⟨i, hi, hx⟩ | hx
    · exact Or.inl ⟨i, by omega, hx⟩
    · rw [iup_eq] at hx
      exact Or.inl ⟨D + 1, Nat.le_refl _, Or.inl (by omega)⟩
/-- all of it, when all is done -/
def LOf (N M : Nat) (φ ψ up lo : Nat → Nat) (T : ev_St) : Prop := (lo 0 = 0 ∧ φ 0 + 1 = M) ∧ (∀ m, m < N → T.1 626 (3840 + m) = -1 → φ m = lo m) ∧ (∀ m t : Nat, m < N → T.1 626 (3840 + m) = (t : Int) → lo t = lo m ∧ t = m + 1 ∧ t < N) ∧ (∀ s t : Nat, s < N → T.1 627 (3840 + s) = (t : Int) → lo t = ψ s + 1 ∧ s < t ∧ t < N) ∧ (∀ s, s < N → s ≠ 0 → T.1 627 (3840 + s) = -1 → φ (up s) = ψ s + 1) ∧ (∀ m, m < N → ψ m = φ m ∨ (T.1 630 (3840 + m) ≠ 2 ∧ ψ m = φ m + 1) ∨ (T.1 630 (3840 + m) = 2 ∧ ψ m = φ m + 3)) ∧ ∀ m t u v : Nat, m < N → T.1 627 (3840 + m) = (t : Int) → m < u → u < t → v < N → (T.1 626 (3840 + v) = (u : Int) ∨ T.1 627 (3840 + v) = (u : Int)) → m ≤ v
theorem LOf_c {N M : Nat} {φ ψ up lo : Nat → Nat} (h : LOf N M φ ψ up lo T) (t1 : ∀ m c, m < N → c = 626 ∨ c = 627 ∨ c = 630 → T2.1 c (3840 + m) = T.1 c (3840 + m)) : LOf N M φ ψ up lo T2 := by
  obtain ⟨a0, a1, a2, a3, a4, a5, a9⟩ := h
  refine ⟨a0, fun m hm hc => a1 m hm ((t1 m 626 hm (by omega)).symm.trans hc), fun m t hm hc => a2 m t hm ((t1 m 626 hm (by omega)).symm.trans hc), fun s t hs hc => a3 s t hs ((t1 s 627 hs (by omega)).symm.trans hc), fun s hs h0 hx => a4 s hs h0 ((t1 s 627 hs (by omega)).symm.trans hx), fun m hm => by rw [t1 m 630 hm (by omega)]; exact a5 m hm, fun m t u v hm hx h1 h2 hv hl => a9 m t u v hm ((t1 m 627 hm (by omega)).symm.trans hx) h1 h2 hv ?_⟩
  rw [t1 v 626 hv (by omega), t1 v 627 hv (by omega)] at hl
  exact hl
theorem LO_root (h : LO N M 0 φ ψ up lo G R P T) (hU : UP k N M 0 φ ψ own up G R P S T) (hR : RDR k N M 0 φ ψ own G R P q S T) (hG0 : G 0 = 0) : LOf N (M + 2) (nup (nup φ (R 0) M) 0 (M + 1)) (nup (nup ψ (R 0) M) 0 (M + 1)) up lo T := by
  have hG := hR.2.1
  have gD := hG 0 (Nat.le_refl _)
  have ho := hR.2.2.2.2.1
  obtain ⟨⟨_, ogR, _, ogG, _⟩, _⟩ := (ho 0 (Nat.le_refl _)).2.2
  have u1 := (hU.2.1 0 (Nat.le_refl _)).1
  rw [hG0] at u1 ogG
  have cs : ∀ t, t < N → clo N 0 G R t ∨ t = 0 ∨ t = R 0 := fun t ht => by
    by_cases e1 : t = 0
    · exact Or.inr (Or.inl e1)
    · by_cases e2 : t = R 0
      · exact Or.inr (Or.inr e2)
      · refine Or.inl ⟨ht, ?_⟩
        rintro ⟨i, hi, z3⟩
        have : i = 0 := by omega
        subst this
        omega
  have cr : ∀ t, clo N 0 G R t → t ≠ 0 ∧ t ≠ R 0 := fun t ht => ⟨fun z => ht.2 ⟨0, Nat.le_refl _, Or.inl (by rw [hG0]; exact z)⟩, fun z => ht.2 ⟨0, Nat.le_refl _, Or.inr z⟩⟩
  have gr : R 0 ≠ 0 := fun z => (gD.2.2 0 (Nat.le_refl _)).1 (by rw [hG0, z])
  have fo : ∀ (f : Nat → Nat) t, t ≠ 0 → t ≠ R 0 → nup (nup f (R 0) M) 0 (M + 1) t = f t := fun f t h1 h2 => by rw [nup_ne h1, nup_ne h2]
  have fR : ∀ f : Nat → Nat, nup (nup f (R 0) M) 0 (M + 1) (R 0) = M := fun f => by rw [nup_ne gr, nup_eq]
  obtain ⟨⟨a0, a1⟩, a2, a3, a4, a5, a6, a7, a8, a9, a10⟩ := h
  have emptyC : T.1 626 (3840 + R 0) = -1 → P 0 = -1 := fun z => by
    rcases (ho 0 (Nat.le_refl _)).2.1 with ⟨y, _⟩ | ⟨_, u, _, _, ⟨_, _, y, _⟩, _⟩
    · exact y
    · omega
  have hasC : T.1 626 (3840 + 0) ≠ -1 := fun z => by
    have q := (ho 0 (Nat.le_refl _)).1
    rw [hG0] at q
    rcases q with ⟨_, y, _⟩ | ⟨_, u, _, _, _, _, y, _⟩ <;> omega
  refine ⟨⟨a0, by rw [nup_eq]⟩, fun m hm hc => ?_, a2, fun s t hs hc => ?_, fun s hs h0 hx => ?_, fun m hm => ?_, a9⟩
  · rcases cs m hm with z | z | z
    · rw [fo φ m (cr m z).1 (cr m z).2]
      exact a1 m z hc
    · rw [z] at hc
      exact absurd hc hasC
    · rw [z] at hc ⊢
      rw [fR]
      exact (a7.1 (emptyC hc)).1
  · rw [fo ψ s (fun z => by rw [z] at hc; omega) (fun z => by rw [z] at hc; omega)]
    exact a3 s t hs hc
  · rcases cs s hs with z | z | z
    · rw [fo ψ s (cr s z).1 (cr s z).2]
      rcases cs (up s) (hU.1.1 s hs) with y | y | y
      · rw [fo φ _ (cr _ y).1 (cr _ y).2]
        exact a4 s z h0 y hx
      · exact absurd hx ((a6 0 (Nat.le_refl _)).2 s z (by rw [y, hG0]))
      · rw [y, fR]
        exact (a7.2 s ((a6 0 (Nat.le_refl _)).1 s z y hx).2).1
    · exact absurd z h0
    · rw [z, u1, nup_eq, fR]
  · rcases cs m hm with z | z | z
    · rw [fo φ m (cr m z).1 (cr m z).2, fo ψ m (cr m z).1 (cr m z).2]
      exact a5 m z
    · rw [z, nup_eq, nup_eq]
      exact Or.inl rfl
    · rw [z, fR, fR]
      exact Or.inl rfl
end LOREL
