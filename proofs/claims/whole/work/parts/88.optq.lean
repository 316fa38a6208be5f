/-! THE READER: what stands beside the tables: groups, counts, flags; a leaf keeps it all -/
section RBES
variable {Q k n m w d N M D lv : Nat} {φ ψ own inn G R ws : Nat → Nat} {P q : Nat → Int} {S T S0 T0 S2 T2 T1 : ev_St}
def RIg (k N D : Nat) (φ G R : Nat → Nat) (S T : ev_St) : Prop := (S.1 k 12 = T.1 636 12 ∧ 0 ≤ T.1 636 12 ∧ T.1 636 12 ≤ 9) ∧ (∀ l, l < 26 → S.1 (k + 11) l = T.1 638 (312 + l) ∧ 0 ≤ T.1 638 (312 + l) ∧ T.1 638 (312 + l) ≤ T.1 636 12) ∧ (∀ j : Nat, 1 ≤ j → (j : Int) ≤ T.1 636 12 → ∃ t : Nat, T.1 637 (120 + j) = (t : Int) ∧ t < N ∧ T.1 625 (3840 + t) = 8 ∧ T.1 628 (3840 + t) = (j : Int) ∧ (clo N D G R t → S.1 (k + 10) j = (φ t : Int))) ∧ (∀ i, i ≤ D → T.1 625 (3840 + G i) = 8 → ∃ j : Nat, 1 ≤ j ∧ (j : Int) ≤ T.1 636 12 ∧ T.1 628 (3840 + G i) = (j : Int) ∧ T.1 637 (120 + j) = (G i : Int)) ∧ (G 0 = 0 ∧ T.1 637 120 = 0)
/-- how many of the first n nodes are no rows -/
def nrc (f : Nat → Int) : Nat → Nat
  | 0 => 0
  | n + 1 => nrc f n + (if f n = 18 then 0 else 1)
theorem nrc_c {f f' : Nat → Int} : ∀ n, (∀ m, m < n → f' m = f m) → nrc f' n = nrc f n := fun n => by
  induction n with
  | zero => exact fun _ => rfl
  | succ n ih =>
    intro h
    show nrc f' n + (if f' n = 18 then 0 else 1) = nrc f n + (if f n = 18 then 0 else 1)
    rw [ih (fun m hm => h m (by omega)), h n (by omega)]
abbrev Kn (T : ev_St) (m : Nat) : Int := T.1 625 (3840 + m)
def RIc (N M D : Nat) (S T : ev_St) : Prop := (S.1 3 14 = T.1 621 27 ∧ 0 ≤ T.1 621 27 ∧ T.1 621 27 ≤ 150) ∧ (N : Int) ≤ 2 * T.1 621 27 + 2 ∧ 2 * (M : Int) + 5 * D + S.1 3 13 ≤ 5 * T.1 621 27 ∧ (D : Int) ≤ T.1 621 27 ∧ (nrc (Kn T) N : Int) ≤ T.1 621 27 + 1
def RIf (S T : ev_St) : Prop := S.1 3 11 = T.1 621 40 ∧ 0 ≤ T.1 621 40 ∧ T.1 621 40 ≤ 7
def RIm (D : Nat) (P : Nat → Int) (S T : ev_St) : Prop := (S.1 3 13 = 0 ∧ T.1 621 39 = -1) ∨ (S.1 3 13 = 1 ∧ ∃ t : Nat, T.1 621 39 = (t : Int) ∧ P D = (t : Int) ∧ T.1 630 (3840 + t) = -1)
def RIb (k lv : Nat) (ws : Nat → Nat) (N M D : Nat) (φ ψ own inn G R : Nat → Nat) (P q : Nat → Int) (S T : ev_St) : Prop := (RDR k N M D φ ψ own G R P q S T ∧ LKS N inn T) ∧ RIt lv ws S T ∧ RIg k N D φ G R S T ∧ RIc N M D S T ∧ RIf S T ∧ RIm D P S T ∧ S.2.2.1 3 9 = k + 1 ∧ T.1 621 25 = 0
theorem sp_238b {a b : Int64} (hm : T.1 635 12 = (m : Int)) (hh : m < 320) (hc : 0 ≤ T.1 621 27 ∧ T.1 621 27 ≤ 1000) (hr : 0 ≤ T.1 621 37 ∧ T.1 621 37 < m) (hl : -1 ≤ T.1 621 38 ∧ T.1 621 38 < m) : ∃ T1, ADr m 0 T T1 ∧ jm_238 Q a b T = some ((), ev_pL (ev_pL T1 633 (3840 + m) a) 634 (3840 + m) b) := by
  obtain ⟨T1, t1, t2⟩ := sp_237b (Q := Q) (a := 0) hm hh hc hr hl
  obtain ⟨_, _, _, _, _, _, _, _, l9, l10, _⟩ := al_N
  refine ⟨T1, t2, ?_⟩
  unfold jm_238
  rw [sp_232, sp_bd, t1, sp_bd, sp_ck (by omega), sp_if (by rw [l9]; omega), show ((3840 : Int) + (m : Int)).toNat = 3840 + m from by omega, sp_b, sp_if (by rw [l10]; omega), sp_b]
/-- where a new item is linked, by the tables -/
theorem RDR_lk (hR : RDR k N M D φ ψ own G R P q S T) : ∃ s rc : Nat, s < N ∧ (rc = 626 ∨ rc = 627) ∧ lkc (T.1 621 38) = rc ∧ lkp (T.1 621 38) (T.1 621 37) = 3840 + s ∧ ((P D = -1 ∧ rc = 626 ∧ s = R D) ∨ (P D = (s : Int) ∧ rc = 627)) := by
  have hl := RDR_last hR
  obtain ⟨_, hG, _, ⟨e6, e7⟩, _⟩ := hR
  have hGD := hG D (Nat.le_refl _)
  rcases hl with ⟨h1, _⟩ | ⟨t, h1, h2, _⟩
  · refine ⟨R D, 626, hGD.2.1, Or.inl rfl, ?_, ?_, Or.inl ⟨h1, rfl, rfl⟩⟩
    · rw [e7, h1]; rfl
    · rw [e7, h1, e6]
      unfold lkp
      rw [if_pos rfl]
      omega
  · refine ⟨t, 627, h2.1, Or.inr rfl, ?_, ?_, Or.inr ⟨h1, rfl⟩⟩
    · rw [e7, h1]
      unfold lkc
      rw [if_neg (by omega)]
    · rw [e7, h1]
      unfold lkp
      rw [if_neg (by omega)]
      omega
/-- the state behind a spot that was moved on both sides -/
def MVd (lv : Nat) (p : Int) (S T S0 T0 : ev_St) : Prop := (∀ x g, ¬ (x = 3 ∧ g = 8) → ¬ (6 ≤ x ∧ x ≤ 13) → S0.1 x g = S.1 x g) ∧ S0.1 3 8 = p ∧ (∀ x g, x ≠ 6 → S0.2.2.1 x g = S.2.2.1 x g) ∧ (∀ x g, ¬ (x = 645 ∧ g = lv) → ¬ (651 ≤ x ∧ x ≤ 657) → T0.1 x g = T.1 x g) ∧ T0.1 645 lv = p ∧ T0.2.2.1 = T.2.2.1 ∧ (∀ c g, 633 ≤ c → c ≤ 634 → T0.2.1 c g = T.2.1 c g) ∧ (∀ c g, 232 ≤ c → S0.2.1 c g = S.2.1 c g)
theorem RIb_mv {p : Int} (h : RIb k lv ws N M D φ ψ own inn G R P q S T) (hkr : 232 ≤ k) (hm : MVd lv p S T S0 T0) (hp : 0 ≤ p ∧ p ≤ S.1 (ws lv) 1) : RIb k lv ws N M D φ ψ own inn G R P q S0 T0 := by
  obtain ⟨⟨hR, hL⟩, ht, hg, hc, hf, hy, h9, h25⟩ := h
  obtain ⟨m1, m2, m3, m4, m5, m6, m7, m8⟩ := hm
  have hd := hR.1.2.2.2.2
  refine ⟨⟨RDR_c hR ⟨m1 _ _ (by omega) (by omega), m1 _ _ (by omega) (by omega)⟩ (fun i hi => funext fun g => m1 _ _ (by omega) (by omega)) (fun j h1 h2 => funext fun g => m1 _ _ (by omega) (by omega)) (fun j h1 h2 => funext fun g => m8 _ _ (by omega)) ⟨m4 _ _ (by omega) (by omega), m4 _ _ (by omega) (by omega), m4 _ _ (by omega) (by omega), m4 _ _ (by omega) (by omega)⟩ (fun c h1 h2 => funext fun g => m4 _ _ (by omega) (by omega)) (fun c h1 h2 => funext fun g => m4 _ _ (by omega) (by omega)) (fun c h1 h2 => funext fun g => m7 _ _ h1 h2), LKS_c hL (fun c m _ _ => m4 _ _ (by omega) (by omega)) (fun m _ _ => m4 _ _ (by omega) (by omega))⟩, RIt_pos ht (fun x g z => m1 x g (by unfold KTs at z; omega) (by unfold KTs at z; omega)) (fun x g z => m3 x g (by omega)) (fun x g z => m4 x g (by unfold KTt at z; omega) (by unfold KTt at z; omega)) (fun i hi => m4 _ _ (by omega) (by omega)) ⟨by omega, by omega, by omega⟩, ?_, ?_, ?_, ?_, by rw [m3 _ _ (by omega)]; exact h9, by rw [m4 _ _ (by omega) (by omega)]; exact h25⟩
  · unfold RIg at hg ⊢
    rw [m1 k 12 (by omega) (by omega), m4 636 12 (by omega) (by omega), m4 637 120 (by omega) (by omega)]
    refine ⟨hg.1, fun l hl => ?_, fun j h1 h2 => ?_, fun i h1 h2 => ?_, hg.2.2.2.2⟩
    · rw [m1 _ _ (by omega) (by omega), m4 _ _ (by omega) (by omega)]
      exact hg.2.1 l hl
    · obtain ⟨t, z1, z2, z3, z4, z5⟩ := hg.2.2.1 j h1 h2
      exact ⟨t, by rw [m4 _ _ (by omega) (by omega), z1], z2, by rw [m4 _ _ (by omega) (by omega), z3], by rw [m4 _ _ (by omega) (by omega), z4], fun y => by rw [m1 _ _ (by omega) (by omega), z5 y]⟩
    · rw [m4 _ _ (by omega) (by omega)] at h2
      obtain ⟨j, z1, z2, z3, z4⟩ := hg.2.2.2.1 i h1 h2
      exact ⟨j, z1, z2, by rw [m4 _ _ (by omega) (by omega), z3], by rw [m4 _ _ (by omega) (by omega), z4]⟩
  · unfold RIc at hc ⊢
    rw [m1 3 14 (by omega) (by omega), m1 3 13 (by omega) (by omega), m4 621 27 (by omega) (by omega), nrc_c (f := Kn T) (f' := Kn T0) N (fun m _ => m4 _ _ (by omega) (by omega))]
    exact hc
  · unfold RIf at hf ⊢
    rw [m1 3 11 (by omega) (by omega), m4 621 40 (by omega) (by omega)]
    exact hf
  · unfold RIm at hy ⊢
    rw [m1 3 13 (by omega) (by omega), m4 621 39 (by omega) (by omega)]
    rcases hy with z | ⟨z, t, z1, z2, z3⟩
    · exact Or.inl z
    · exact Or.inr ⟨z, t, z1, z2, by rw [m4 _ _ (by omega) (by omega), z3]⟩
/-- a leaf keeps all that stands beside the tables -/
theorem RI_leaf {a b c c0 : Int} (h : RIb k lv ws N M D φ ψ own inn G R P q S T) (hkr : 232 ≤ k) (h1 : ADr N c0 T T1) (hc0 : c0 ≠ 18) (v1 : ∀ a g, ¬ ((a = 628 ∨ a = 629) ∧ g = 3840 + N) → T2.1 a g = T1.1 a g) (s : LFc k D M a b c S S2) (hR2 : RDR k (N + 1) (M + 1) D (nup φ N M) (nup ψ N M) (nup own M N) G R (iup P D (N : Int)) q S2 T2) (h25 : T2.1 621 25 = 0) : RIb k lv ws (N + 1) (M + 1) D (nup φ N M) (nup ψ N M) (nup own M N) (nup inn N (lkp (T.1 621 38) (T.1 621 37) - 3840)) G R (iup P D (N : Int)) q S2 T2 := by
  obtain ⟨⟨hR, hL⟩, ht, hg, hc, hf, hy, h9, hb⟩ := h
  obtain ⟨s0, rc, hs, hrc, k1, k2, k3⟩ := RDR_lk hR
  obtain ⟨⟨a1, a2, a3, a4, a5, a6⟩, ⟨u1, u2, u3, u4, u5, u6, u7, u8, u9, u10⟩, f1, f2, f3⟩ := h1
  obtain ⟨⟨c1, c2, c3, c4, c5⟩, ⟨c6, c7, c8, c9, c10⟩, c11, c12⟩ := s
  rw [k1, k2] at a6 f1
  rw [k2, show 3840 + s0 - 3840 = s0 from by omega]
  have hd := hR.1.2.2.2.2
  have hMM := hR.1.2.1
  have ck := ck_i k D (S.1 (17 + D) 7)
  have tf : ∀ c g, ¬ (c = 635 ∧ g = 12) → ¬ (625 ≤ c ∧ c ≤ 632 ∧ g = 3840 + N) → ¬ (c = 621 ∧ (g = 25 ∨ g = 27 ∨ g = 38 ∨ g = 39)) → ¬ (c = rc ∧ g = 3840 + s0) → T2.1 c g = T.1 c g := fun c g h1 h2 h3 h4 => by
    rw [v1 c g (by omega), f1 c g h1 h2 h3 h4]
  have lt : T.1 621 27 < 150 := by
    have e : T2.1 621 25 = T1.1 621 25 := v1 _ _ (by omega)
    rw [h25, a3] at e
    by_cases z : T.1 621 25 = 0 ∧ T.1 621 27 < 150
    · exact z.2
    · rw [if_neg z] at e
      exact absurd e (by decide)
  have t27 : T2.1 621 27 = T.1 621 27 + 1 := by rw [v1 _ _ (by omega), a2]
  refine ⟨⟨hR2, LKS_1 hL hs hrc ?_ ⟨?_, ?_, fun z => ?_⟩ (fun c m h1 h2 h3 => tf _ _ (by omega) (by omega) (by omega) (by omega))⟩, RIt_pos ht (fun x g z => c11 x g (by unfold KTs at z; omega) (by unfold KTs at z; omega) (by unfold KTs at z; omega) (by unfold KTs at z; omega) (by unfold KTs at z; omega)) (fun x g _ => by rw [c12]) (fun x g z => tf x g (by unfold KTt at z; omega) (by unfold KTt at z; omega) (by unfold KTt at z; omega) (by unfold KTt at z; omega)) (fun i hi => tf _ _ (by omega) (by omega) (by omega) (by omega)) ?_, ?_, ?_, ?_, ?_, by rw [c12]; exact h9, h25⟩
  · rw [v1 _ _ (by omega), a6]
  · rw [v1 _ _ (by omega), u2]
  · rw [v1 _ _ (by omega), u3]
  · rw [v1 _ _ (by omega), u1] at z
    exact absurd z hc0
  · have p := ht.2.2.2.1 lv (Nat.le_refl _)
    have p2 := ht.2.2.2.2.2.1.2
    rw [tf 645 lv (by omega) (by omega) (by omega) (by omega), c11 3 8 (by omega) (by omega) (by omega) (by omega) (by omega)]
    exact ⟨p2, p.2⟩
  · refine ⟨?_, fun l hl => ?_, fun j h1 h2 => ?_, fun i h1 h2 => ?_, ?_⟩
    · rw [c11 k 12 (by omega) (by omega) (by omega) (by omega) (by omega), tf 636 12 (by omega) (by omega) (by omega) (by omega)]
      exact hg.1
    · rw [c11 (k + 11) l (by omega) (by omega) (by omega) (by omega) (by omega), tf 638 _ (by omega) (by omega) (by omega) (by omega), tf 636 12 (by omega) (by omega) (by omega) (by omega)]
      exact hg.2.1 l hl
    · rw [tf 636 12 (by omega) (by omega) (by omega) (by omega)] at h2
      obtain ⟨t, z1, z2, z3, z4, z5⟩ := hg.2.2.1 j h1 h2
      refine ⟨t, by rw [tf 637 _ (by omega) (by omega) (by omega) (by omega), z1], by omega, by rw [tf 625 _ (by omega) (by omega) (by omega) (by omega), z3], by rw [tf 628 _ (by omega) (by omega) (by omega) (by omega), z4], fun y => ?_⟩
      rw [c11 (k + 10) j (by omega) (by omega) (by omega) (by omega) (by omega), nup_ne (by omega), z5 ⟨z2, y.2⟩]
    · have hGi := (hR.2.1 i h1).1
      rw [tf 625 _ (by omega) (by omega) (by omega) (by omega)] at h2
      obtain ⟨j, z1, z2, z3, z4⟩ := hg.2.2.2.1 i h1 h2
      exact ⟨j, z1, by rw [tf 636 12 (by omega) (by omega) (by omega) (by omega)]; exact z2, by rw [tf 628 _ (by omega) (by omega) (by omega) (by omega), z3], by rw [tf 637 _ (by omega) (by omega) (by omega) (by omega), z4]⟩
    · rw [tf 637 120 (by omega) (by omega) (by omega) (by omega)]
      exact hg.2.2.2.2
  · obtain ⟨⟨y1, y2, y3⟩, y4, y5, y6, y7⟩ := hc
    have m0 : 0 ≤ S.1 3 13 := by
      rcases hy with z | z
      · omega
      · omega
    have e1 := nrc_c (f := Kn T) (f' := Kn T2) N (fun m hm => tf 625 _ (by omega) (by omega) (by omega) (by omega))
    have e2 : Kn T2 N = c0 := by
      show T2.1 625 (3840 + N) = c0
      rw [v1 _ _ (by omega), u1]
    have e3 : nrc (Kn T2) (N + 1) = nrc (Kn T) N + 1 := by
      show nrc (Kn T2) N + (if Kn T2 N = 18 then 0 else 1) = _
      rw [e1, e2, if_neg hc0]
    refine ⟨⟨by omega, by omega, by omega⟩, by omega, by omega, by omega, by omega⟩
  · unfold RIf at hf ⊢
    rw [c11 3 11 (by omega) (by omega) (by omega) (by omega) (by omega), tf 621 40 (by omega) (by omega) (by omega) (by omega)]
    exact hf
  · refine Or.inr ⟨c6, N, ?_, iup_eq, ?_⟩
    · rw [v1 _ _ (by omega), a5]
    · rw [v1 _ _ (by omega), u6]
end RBES
