/-! THE READER: a group ends on both sides, the tables -/
section REND2
variable {Q k n m w d N M D lv t : Nat} {φ ψ own inn G R ws y : Nat → Nat} {P q : Nat → Int} {S T S0 T0 S2 T2 T1 U : ev_St}
theorem sp_240 (hd : T.1 621 31 = ((D + 1 : Nat) : Int) + 1) (hD : D + 1 < 160) : ∃ T', jm_240 Q T = some ((), T') ∧ (T'.1 621 31 = (D : Int) + 1 ∧ T'.1 621 37 = T.1 647 (D + 1) ∧ T'.1 621 38 = T.1 648 (D + 1) ∧ T'.1 621 40 = T.1 649 (D + 1) ∧ T'.1 621 39 = T.1 646 (D + 1)) ∧ (∀ c g, ¬ (c = 621 ∧ (g = 31 ∨ g = 37 ∨ g = 38 ∨ g = 39 ∨ g = 40)) → T'.1 c g = T.1 c g) ∧ T'.2 = T.2 := by
  obtain ⟨o1, o2, o3, o4, o5⟩ := al_O
  have e1 : ((D + 1 : Nat) : Int) + 1 - 1 = ((D + 1 : Nat) : Int) := by omega
  refine ⟨ev_pI (ev_pI (ev_pI (ev_pI (ev_pI T 621 31 ((D + 1 : Nat) : Int)) 621 37 (T.1 647 (D + 1))) 621 38 (T.1 648 (D + 1))) 621 40 (T.1 649 (D + 1))) 621 39 (T.1 646 (D + 1)), ?_, ⟨?_, ?_, ?_, ?_, rd_eq⟩, fun c g h => ?_, rfl⟩
  · unfold jm_240
    simp (disch := omega) only [sp_b, rd_nk, rd_nf, rd_eq, hd, e1, Int.toNat_natCast]
    rw [sp_ck (by omega), sp_if (by rw [o2]; omega), sp_if (by rw [o3]; omega), sp_if (by rw [o4]; omega), sp_if (by rw [o1]; omega), show (((D + 1 : Nat) : Int)).toNat = D + 1 from by omega]
  · rw [rd_nf (by omega), rd_nf (by omega), rd_nf (by omega), rd_nf (by omega), rd_eq]
    omega
  · rw [rd_nf (by omega), rd_nf (by omega), rd_nf (by omega), rd_eq]
  · rw [rd_nf (by omega), rd_nf (by omega), rd_eq]
  · rw [rd_nf (by omega), rd_eq]
  · rw [sp_pI1, if_neg (by omega), sp_pI1, if_neg (by omega), sp_pI1, if_neg (by omega), sp_pI1, if_neg (by omega), sp_pI1, if_neg (by omega)]
theorem clo_close (hG : ∀ i, i ≤ D + 1 → G i < N ∧ R i < N ∧ (∀ j, j ≤ D + 1 → G i ≠ R j ∧ (i ≠ j → G i ≠ G j ∧ R i ≠ R j))) : clo N D G R t ↔ (clo N (D + 1) G R t ∨ t = G (D + 1) ∨ t = R (D + 1)) := by
  have hD := hG (D + 1) (Nat.le_refl _)
  unfold clo isOp
  constructor
  · rintro ⟨z1, z2⟩
    by_cases e1 : t = G (D + 1)
    · exact Or.inr (Or.inl e1)
    · by_cases e2 : t = R (D + 1)
      · exact Or.inr (Or.inr e2)
      · refine Or.inl ⟨z1, ?_⟩
        rintro ⟨i, hi, z3⟩
        by_cases e3 : i = D + 1
        · subst e3
          omega
        · exact z2 ⟨i, by omega, z3⟩
  · rintro (⟨z1, z2⟩ | rfl | rfl)
    · exact ⟨z1, fun ⟨i, hi, z3⟩ => z2 ⟨i, by omega, z3⟩⟩
    · refine ⟨hD.1, ?_⟩
      rintro ⟨i, hi, z3⟩
      have a := hG i (by omega)
      have b := (hD.2.2 i (by omega))
      have c := b.2 (by omega)
      rcases z3 with z3 | z3
      · exact c.1 z3
      · exact b.1 z3
    · refine ⟨hD.2.1, ?_⟩
      rintro ⟨i, hi, z3⟩
      have a := (hG i (by omega)).2.2 (D + 1) (Nat.le_refl _)
      have c := a.2 (by omega)
      rcases z3 with z3 | z3
      · exact a.1 z3.symm
      · exact c.2 z3.symm
theorem kcl_18 {c f : Int} (h : 8 ≤ c ∧ c ≤ 13) : (kcl c f = 18 ↔ c = 8) ∧ kcl c f ≠ 16 := by
  unfold kcl
  obtain rfl | rfl | rfl | rfl | rfl | rfl : c = 8 ∨ c = 9 ∨ c = 10 ∨ c = 11 ∨ c = 12 ∨ c = 13 := by omega
  all_goals simp
  all_goals (constructor <;> split <;> omega)
/-- what the class's end keeps -/
def ENf (k D : Nat) (S S' : ev_St) : Prop := (∀ x g, (x ≤ 16 ∧ ¬ (x = 3 ∧ (g = 10 ∨ g = 11 ∨ g = 13))) ∨ (169 ≤ x ∧ x < 232) → S'.1 x g = S.1 x g) ∧ S'.2 = S.2
/-- all but the texts -/
def RIw (k N M D : Nat) (φ ψ own inn G R : Nat → Nat) (P q : Nat → Int) (S T : ev_St) : Prop := (RDR k N M D φ ψ own G R P q S T ∧ LKS N inn T) ∧ RIg k N D φ G R S T ∧ RIc N M D S T ∧ RIf S T ∧ RIm D P S T ∧ S.2.2.1 3 9 = k + 1
theorem RIw_of (h : RIb k lv ws N M D φ ψ own inn G R P q S T) : RIw k N M D φ ψ own inn G R P q S T := ⟨h.1, h.2.2.1, h.2.2.2.1, h.2.2.2.2.1, h.2.2.2.2.2.1, h.2.2.2.2.2.2.1⟩
theorem RIw_c (h : RIw k N M D φ ψ own inn G R P q S T) (hkr : 232 ≤ k) (s1 : ∀ x g, ¬ (x = 3 ∧ (g = 6 ∨ g = 8)) → ¬ (x = 16) → S2.1 x g = S.1 x g) (s2 : S2.2.1 = S.2.1) (s3 : S2.2.2.1 3 9 = S.2.2.1 3 9) (t1 : ∀ x g, ¬ (x = 621 ∧ (g = 28 ∨ g = 25)) → x ≠ 645 → x ≠ 644 → T2.1 x g = T.1 x g) (t2 : T2.2.1 = T.2.1) : RIw k N M D φ ψ own inn G R P q S2 T2 := by
  obtain ⟨⟨hR, hL⟩, hg, hc, hf, hy, h9⟩ := h
  have hd := hR.1.2.2.2.2
  refine ⟨⟨RDR_c hR ⟨s1 _ _ (by omega) (by omega), s1 _ _ (by omega) (by omega)⟩ (fun i hi => funext fun g => s1 _ _ (by omega) (by omega)) (fun j h1 h2 => funext fun g => s1 _ _ (by omega) (by omega)) (fun j h1 h2 => by rw [s2]) ⟨t1 _ _ (by omega) (by omega) (by omega), t1 _ _ (by omega) (by omega) (by omega), t1 _ _ (by omega) (by omega) (by omega), t1 _ _ (by omega) (by omega) (by omega)⟩ (fun c h1 h2 => funext fun g => t1 _ _ (by omega) (by omega) (by omega)) (fun c h1 h2 => funext fun g => t1 _ _ (by omega) (by omega) (by omega)) (fun c h1 h2 => by rw [t2]), LKS_c hL (fun c m _ _ => t1 _ _ (by omega) (by omega) (by omega)) (fun m _ _ => t1 _ _ (by omega) (by omega) (by omega))⟩, ?_, ?_, ?_, ?_, by rw [s3]; exact h9⟩
  · unfold RIg at hg ⊢
    rw [s1 k 12 (by omega) (by omega), t1 636 12 (by omega) (by omega) (by omega), t1 637 120 (by omega) (by omega) (by omega)]
    refine ⟨hg.1, fun l hl => ?_, fun j h1 h2 => ?_, fun i h1 h2 => ?_, hg.2.2.2.2⟩
    · rw [s1 _ _ (by omega) (by omega), t1 _ _ (by omega) (by omega) (by omega)]
      exact hg.2.1 l hl
    · obtain ⟨t, z1, z2, z3, z4, z5⟩ := hg.2.2.1 j h1 h2
      exact ⟨t, by rw [t1 _ _ (by omega) (by omega) (by omega), z1], z2, by rw [t1 _ _ (by omega) (by omega) (by omega), z3], by rw [t1 _ _ (by omega) (by omega) (by omega), z4], fun y => by rw [s1 _ _ (by omega) (by omega), z5 y]⟩
    · rw [t1 _ _ (by omega) (by omega) (by omega)] at h2
      obtain ⟨j, z1, z2, z3, z4⟩ := hg.2.2.2.1 i h1 h2
      exact ⟨j, z1, z2, by rw [t1 _ _ (by omega) (by omega) (by omega), z3], by rw [t1 _ _ (by omega) (by omega) (by omega), z4]⟩
  · unfold RIc at hc ⊢
    rw [s1 3 14 (by omega) (by omega), s1 3 13 (by omega) (by omega), t1 621 27 (by omega) (by omega) (by omega), nrc_c (f := Kn T) (f' := Kn T2) N (fun m _ => t1 _ _ (by omega) (by omega) (by omega))]
    exact hc
  · unfold RIf at hf ⊢
    rw [s1 3 11 (by omega) (by omega), t1 621 40 (by omega) (by omega) (by omega)]
    exact hf
  · unfold RIm at hy ⊢
    rw [s1 3 13 (by omega) (by omega), t1 621 39 (by omega) (by omega) (by omega)]
    rcases hy with z | ⟨z, t, z1, z2, z3⟩
    · exact Or.inl z
    · exact Or.inr ⟨z, t, z1, z2, by rw [t1 _ _ (by omega) (by omega) (by omega), z3]⟩
theorem cl_core (hk : ev_isOb k 5 = true) (hkr : 232 ≤ k) (h : RIw k N M (D + 1) φ ψ own inn G R P q S T) (h649 : 0 ≤ T.1 649 (D + 1) ∧ T.1 649 (D + 1) ≤ 7) : ∃ S' T' φ' ψ' own', jm_100 Q S = some (1, S') ∧ jm_240 Q T = some ((), T') ∧ (RDR k N (M + 2) D φ' ψ' own' G R (iup P D (G (D + 1) : Int)) q S' T' ∧ LKS N inn T') ∧ RIg k N D φ' G R S' T' ∧ RIc N (M + 2) D S' T' ∧ RIf S' T' ∧ RIm D (iup P D (G (D + 1) : Int)) S' T' ∧ S'.2.2.1 3 9 = k + 1 ∧ ENf k D S S' ∧ (∀ c g, ¬ (c = 621 ∧ (g = 31 ∨ g = 37 ∨ g = 38 ∨ g = 39 ∨ g = 40)) → T'.1 c g = T.1 c g) ∧ T'.2 = T.2 ∧ (UPe k N M (D + 1) φ ψ own G R P S T → UPe k N (M + 2) D φ' ψ' own' G R (iup P D (G (D + 1) : Int)) S' T') := by
  obtain ⟨⟨hR, hL⟩, hgg, hcc, hf, hy, h9⟩ := h
  have n6 : 0 ≤ S.1 3 13 ∧ S.1 3 13 ≤ 1 := by
    rcases hy with z | z
    · omega
    · omega
  have n3 := hcc.1
  have hR0 := hR
  obtain ⟨⟨e1, e2, e3, e4, e5⟩, hG, hst, ⟨e6, e7⟩, ho, hn⟩ := hR
  have hGD := hG (D + 1) (Nat.le_refl _)
  obtain ⟨oR, oI, ⟨og1, og2, og3, og4, og5, og6⟩⟩ := ho (D + 1) (Nat.le_refl _)
  rw [if_neg (by omega)] at og3
  have kc := kcl_18 (f := T.1 629 (3840 + G (D + 1))) og2
  rw [← og3] at kc
  have hcb := hcc.2.2.1
  have lq : (S.1 (17 + (D + 1)) 5 = -1 ∨ ∃ t : Nat, clo N (D + 1) G R t ∧ T.1 625 (3840 + t) = 18 ∧ S.1 (17 + (D + 1)) 5 = (φ t : Int)) := by
    rcases oR with ⟨z1, z2, z3, z4⟩ | ⟨t, u, z1, ⟨z2, z3, _, z4⟩, _⟩
    · exact Or.inl z4
    · exact Or.inr ⟨t, z2, z3, z4⟩
  have li : (S.1 (17 + D) 7 = -1 ∨ ∃ t : Nat, clo N (D + 1) G R t ∧ T.1 625 (3840 + t) ≠ 18 ∧ S.1 (17 + D) 7 = (ψ t : Int)) := by
    rcases (ho D (by omega)).2.1 with ⟨z1, z2, z3, z4⟩ | ⟨t, u, z1, ⟨z2, z3, _, z4⟩, _⟩
    · exact Or.inl z4
    · exact Or.inr ⟨t, z2, z3, z4⟩
  have hgrp : S.1 (17 + (D + 1)) 0 = 18 → ∃ j : Nat, 1 ≤ j ∧ (j : Int) ≤ T.1 636 12 ∧ S.1 (17 + (D + 1)) 1 = (j : Int) ∧ T.1 628 (3840 + G (D + 1)) = (j : Int) ∧ T.1 637 (120 + j) = (G (D + 1) : Int) := fun z => by
    have k8 := kc.1.mp z
    obtain ⟨j, j1, j2, j3, j4⟩ := hgg.2.2.2.1 (D + 1) (Nat.le_refl _) k8
    exact ⟨j, j1, j2, by rw [og4 (Or.inr (Or.inl k8)), j3], j3, j4⟩
  have hg9 := hgg.1.2.2
  have lqb : -1 ≤ S.1 (17 + (D + 1)) 5 := by
    rcases lq with z | ⟨t, _, _, z⟩ <;> omega
  have lib : -1 ≤ S.1 (17 + D) 7 := by
    rcases li with z | ⟨t, _, _, z⟩ <;> omega
  obtain ⟨S', s1, ⟨s2, s3, s4, s5⟩, s6, ⟨s7, s8, s9⟩, s10, s11, s12, s13, s14, s15⟩ := sp_100 (Q := Q) (S := S) (D := D) (M := M) hk hkr h9 e3 (by omega) e2 (by omega) (by
    rcases lq with z | ⟨t, z1, _, z2⟩
    · omega
    · have := (hn t z1).1.1
      omega) (by
    rcases li with z | ⟨t, z1, _, z2⟩
    · omega
    · have := (hn t z1).1.2.1
      omega) kc.2 (fun z => by
    obtain ⟨j, j1, j2, j3, _⟩ := hgrp z
    omega) (fun b hb z => by
    rcases lq with y | ⟨t, y1, y2, y3⟩
    · omega
    · rcases li with x | ⟨t', x1, x2, x3⟩
      · omega
      · have a1 := (hn t y1).1.2.2.1
        have a2 := (hn t' x1).1.2.2.2
        have e : φ t = ψ t' := by omega
        rw [e, a2] at a1
        rw [← a1] at y2
        exact x2 y2)
  obtain ⟨T', t1, ⟨t2, t3, t4, t5, t6⟩, t7, t8⟩ := sp_240 (Q := Q) (T := T) (D := D) e4 (by omega)
  have ck := ck_i k D (S.1 (17 + D) 7)
  have rA : ∀ x g, (x ≤ 16 ∧ ¬ (x = 3 ∧ (g = 10 ∨ g = 11 ∨ g = 13))) ∨ (169 ≤ x ∧ x < 232) → S'.1 x g = S.1 x g := fun x g hx => s14 x g (by omega) (by omega) (by omega) (by omega) (by omega) (by omega) (by omega) (by omega)
  have hR2 : RDR k N (M + 2) D (nup (nup φ (R (D + 1)) M) (G (D + 1)) (M + 1)) (nup (nup ψ (R (D + 1)) M) (G (D + 1)) (M + 1)) (nup (nup own M (R (D + 1))) (M + 1) (G (D + 1))) G R (iup P D (G (D + 1) : Int)) q S' T' := by
    clear lq li hgrp hgg hy hcc oR oI
    refine RDR_close hR0 hkr hL ⟨s2, s3⟩ s6 ⟨s7, s8, rfl, s9⟩ s10 s11 ⟨fun z => ?_, fun b hb => ⟨?_, ?_⟩⟩ (fun i hi => funext fun g => ?_) (fun g hg => ?_) (fun j b h1 h2 h3 h4 => ?_) (by rw [s15]) ⟨t7 _ _ (by omega), t2, t3, t4⟩ (fun c h1 h2 => funext fun g => t7 _ _ (by omega)) (fun c h1 h2 => funext fun g => t7 _ _ (by omega)) (fun c h1 h2 => by rw [t8])
    · rcases ck with ⟨y1, y2, y3⟩ | ⟨y1, y2, y3⟩
      · rw [y2, y3] at s12
        exact s12
      · exact absurd z y1
    · exact s14 _ _ (by omega) (by omega) (by omega) (by omega) (by omega) (by omega) (by omega) (by omega)
    · rcases ck with ⟨y1, y2, y3⟩ | ⟨y1, y2, y3⟩
      · omega
      · rw [y2, y3, hb, Int.toNat_natCast] at s12
        exact s12
    · exact s14 _ _ (by omega) (by omega) (by omega) (by omega) (by omega) (by omega) (by omega) (by omega)
    · exact s14 _ _ (by omega) (by omega) (by omega) (by omega) (by omega) (by omega) (by omega) (by omega)
    · exact s14 _ _ (by omega) (by omega) (by omega) (by omega) (by omega) (by omega) (by omega) (by omega)
  refine ⟨S', T', _, _, _, s1, t1, ⟨hR2, LKS_c hL (fun c m _ _ => t7 _ _ (by omega)) (fun m _ _ => t7 _ _ (by omega))⟩, ?_, ?_, ?_, ?_, by rw [s15]; exact h9, ⟨rA, s15⟩, t7, t8, fun hU => ?up⟩
  case up =>
    refine UL_close hU hR0 (fun m c hm hc => t7 _ _ (by omega)) (fun b hb => ?_) ⟨?_, ?_⟩
    · exact s14 _ _ (by omega) (by omega) (by omega) (by omega) (by omega) (by omega) (by omega) (by omega)
    · rw [s6.2.1]
      rcases oI with ⟨_, _, z, _⟩ | ⟨t', u', _, _, ⟨z1, _, _, z⟩, _⟩
      · omega
      · have := (hn u' z1).1.2.1
        omega
    · rcases oR with ⟨_, _, _, z⟩ | ⟨t', u', _, ⟨_, _, _, z⟩, z1, _, _, z2⟩
      · rw [s10.1 z]
        omega
      · rw [(s10.2 _ z).1, z2]
        have := (hn u' z1).1.1
        omega
  · refine ⟨?_, fun l hl => ?_, fun j h1 h2 => ?_, fun i h1 h2 => ?_, ?_⟩
    · rw [t7 636 12 (by omega), s14 k 12 (by omega) (by omega) (by omega) (by omega) (by omega) (by omega) (by omega) (by omega)]
      exact hgg.1
    · rw [t7 636 12 (by omega), t7 638 _ (by omega), s14 (k + 11) l (by omega) (by omega) (by omega) (by omega) (by omega) (by omega) (by omega) (by omega)]
      exact hgg.2.1 l hl
    · rw [t7 636 12 (by omega)] at h2
      obtain ⟨t, z1, z2, z3, z4, z5⟩ := hgg.2.2.1 j h1 h2
      refine ⟨t, by rw [t7 _ _ (by omega), z1], z2, by rw [t7 _ _ (by omega), z3], by rw [t7 _ _ (by omega), z4], fun w => ?_⟩
      have nR : t ≠ R (D + 1) := fun z => by
        rw [z] at z3
        omega
      by_cases eG : t = G (D + 1)
      · have z0 : S.1 (17 + (D + 1)) 0 = 18 := kc.1.mpr (by rw [← eG]; exact z3)
        have q1 := s13 z0
        have q2 : S.1 (17 + (D + 1)) 1 = (j : Int) := by rw [og4 (Or.inr (Or.inl (by rw [← eG]; exact z3))), ← eG, z4]
        rw [q2, Int.toNat_natCast] at q1
        rw [q1, eG, nup_eq]
        omega
      · rw [nup_ne eG, nup_ne nR]
        have wc := ((clo_close hG).mp w).resolve_right (fun y => y.elim eG nR)
        rw [s14 (k + 10) j (by omega) (by omega) (by omega) (by omega) (by omega) (by omega) (by omega) ?_, z5 wc]
        rintro ⟨y1, y2, y3⟩
        obtain ⟨j', j1, j2, j3, j4, j5⟩ := hgrp y1
        have : j = j' := by omega
        subst this
        rw [z1] at j5
        exact eG (by omega)
    · rw [t7 _ _ (by omega)] at h2
      obtain ⟨j, z1, z2, z3, z4⟩ := hgg.2.2.2.1 i (by omega) h2
      exact ⟨j, z1, by rw [t7 636 12 (by omega)]; exact z2, by rw [t7 _ _ (by omega), z3], by rw [t7 _ _ (by omega), z4]⟩
    · rw [t7 637 120 (by omega)]
      exact hgg.2.2.2.2
  · obtain ⟨⟨c1, c2, c3⟩, c4, c5, c6, c7⟩ := hcc
    unfold RIc
    rw [rA 3 14 (by omega), s5, t7 621 27 (by omega), nrc_c (f := Kn T) (f' := Kn T') N (fun m _ => t7 _ _ (by omega))]
    exact ⟨⟨c1, c2, c3⟩, c4, by omega, by omega, c7⟩
  · unfold RIf
    rw [s4, og5, t5]
    exact ⟨rfl, h649⟩
  · refine Or.inr ⟨s5, G (D + 1), by rw [t6, (hst (D + 1) (Nat.le_refl _)).1], iup_eq, ?_⟩
    rw [t7 _ _ (by omega)]
    exact og1.2.2.2.2
end REND2
