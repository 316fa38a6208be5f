/-! PATTERNS: what is kept of a pattern on both sides -/
section PATN
variable {Q k g b N M m t p f : Nat} {φ ψ own up rk : Nat → Nat} {S S0 S2 T T0 T1 T2 U V X : ev_St} {W : Nat → FV} {CA CI : Nat → List INS}
/-- Q is large enough for the reference's writing -/
def QBp (Q : Nat) : Prop := 320 * (320 * (bT 320 + 1) + 5) + 10 ≤ Q ∧ 1000000 ≤ Q
theorem ref_keep (hF : FINX k N M φ ψ own up S T) (hp : p < 12) (hQ : 100000 ≤ Q) : ∃ T3 v, jm_270 Q (p : Int) T = (if v ≤ 0 then some ((), T3) else ev_bd (jm_313 Q (p : Int) T3) fun _ s36 => some ((), s36)) ∧ FINX k N M φ ψ own up S (sft p T3) ∧ (∀ m, m < N → FQ (320 * p) T3 m) ∧ T3.1 639 p = v ∧ ((v = 0 ∧ ¬ OKp N p T3) ∨ (OKp N p T3 ∧ ((v = 1 ∧ ∃ m, m < N ∧ edR (320 * p + m) T3) ∨ (v = 3 ∧ ¬ ∃ m, m < N ∧ edR (320 * p + m) T3)))) ∧ (∀ c g, ¬ KPc p c g → ¬ ((640 ≤ c ∧ c ≤ 643) ∧ 320 * p ≤ g ∧ g < 320 * p + 320) → ¬ (c = 639 ∧ g = p) → T3.1 c g = T.1 c g) ∧ (∀ c g, ¬ (633 ≤ c ∧ c ≤ 634 ∧ 320 * p ≤ g ∧ g < 320 * p + 320) → T3.2.1 c g = T.2.1 c g) ∧ T3.2.2 = T.2.2 := by
  have hN : N ≤ 320 := hF.2.1.2.2.2
  have hN0 : 0 < N := hF.1.1.2.2.1
  have l39 : ev_aln 639 = 13 := al_K.2.2.2.2.2.2.2.2.2.2.2.2.2.2
  have l35 : ev_aln 635 = 13 := al_K.2.2.2.2.2.2.2.2.2.2.1
  have l43 := al_F.2.2.2
  obtain ⟨T1, a1, ⟨a2, a3, a4, a5, a6⟩, a7, a8, a9⟩ := keep_all (Q := Q) (T := T) hp (by omega) hN hF.2.1.2.2.1
  have hF1 : FINX k N M φ ψ own up S (sft p T1) := FINX_c1 hF (fun _ _ => rfl) (fun _ _ _ _ => rfl) (fun _ _ _ _ => rfl) a2 a3 a4 a5 a6
  have e35 : T1.1 635 p = (N : Int) := by
    have q := hF1.2.1.2.2.1
    rw [sft_5 (Or.inl rfl)] at q
    exact q
  have hB := TB_of hF1
  obtain ⟨T2, b1, b2, b3, b4⟩ := run268_15 (Q := Q) (o := 320 * p) (N := N) (by omega) hN (by omega) N Q T1 (by omega) (Nat.le_refl _) hB (fun m h1 h2 => absurd h2 (by omega))
  have j268 : jm_268 Q (p : Int) T1 = some ((), T2) := by
    unfold jm_268
    rw [sp_ck (by omega), sp_if (by rw [l35]; omega), sp_b, Int.toNat_natCast, e35, sp_ck (by omega), show 320 * (p : Int) = ((320 * p : Nat) : Int) from by omega]
    exact b1
  have e35b : T2.1 635 p = (N : Int) := by rw [b3 _ _ (by omega)]; exact e35
  obtain ⟨big, hbig⟩ : ∃ big : Int, big = if 200 < T2.1 643 (320 * p) then 0 else 1 := ⟨_, rfl⟩
  obtain ⟨v, c1, c2⟩ := run269 (Q := Q) (U := T2) hp hN e35b N Q 0 big 0 (by omega) (by omega)
  have j269 : jm_269 Q (p : Int) T2 = some (v, T2) := by
    unfold jm_269
    rw [sp_ck (by omega), sp_if (by rw [l43]; omega), sp_b, show (320 * (p : Int)).toNat = 320 * p from by omega, sp_jn]
    rw [show 320 * (p : Int) + ((0 : Nat) : Int) = 320 * (p : Int) from by omega] at c1
    by_cases z : 200 < T2.1 643 (320 * p)
    · rw [if_pos z] at hbig
      rw [if_pos z]
      try dsimp only
      rw [sp_ck (by omega)]
      rw [hbig] at c1
      exact c1
    · rw [if_neg z] at hbig
      rw [if_neg z]
      try dsimp only
      rw [sp_ck (by omega)]
      rw [hbig] at c1
      exact c1
  obtain ⟨T3, hT3⟩ : ∃ T3, T3 = ev_pI T2 639 p v := ⟨_, rfl⟩
  have t3 : ∀ c g, ¬ (c = 639 ∧ g = p) → T3.1 c g = T2.1 c g := fun c g h => by rw [hT3, sp_pI1, if_neg h]
  have t3b : T3.2 = T2.2 := by rw [hT3]; rfl
  have e639 : T3.1 639 p = v := by rw [hT3, rd_eq]
  have tb : ∀ c m, 625 ≤ c → c ≤ 632 → T3.1 c (320 * p + m) = T1.1 c (320 * p + m) := fun c m h1 h2 => by
    rw [t3 _ _ (by omega), b3 _ _ (by omega)]
  have hF3 : FINX k N M φ ψ own up S (sft p T3) := FINX_c1 hF1 (fun _ _ => rfl) (fun _ _ _ _ => rfl) (fun _ _ _ _ => rfl) (fun c m h1 h2 _ => by rw [sft_1 h1 h2, sft_1 h1 h2, tb c m h1 h2]) (fun c m h1 h2 _ => by rw [sft_L h1 h2, sft_L h1 h2, t3b, b4]) (fun c h => by rw [sft_5 h, sft_5 h, t3 _ _ (by omega), b3 _ _ (by omega)]) (fun j _ => by rw [sft_7, sft_7, t3 _ _ (by omega), b3 _ _ (by omega)]) (fun l _ => by rw [sft_8, sft_8, t3 _ _ (by omega), b3 _ _ (by omega)])
  have hB2 : TB N (320 * p) T2 := TB_c hB (fun c m h1 h2 _ => b3 _ _ (by omega))
  have ok : ∀ m, okR (320 * p + m) T3 ↔ okR (320 * p + m) T2 := fun m => by
    unfold okR
    rw [t3 625 _ (by omega), t3 630 _ (by omega), t3 632 _ (by omega), t3 640 _ (by omega)]
  have ed : ∀ m, edR (320 * p + m) T3 ↔ edR (320 * p + m) T2 := fun m => by
    unfold edR
    rw [t3 625 _ (by omega)]
  refine ⟨T3, v, ?_, hF3, fun m hm => FQ_c (b2 m hm) hB2 hm (fun c m h1 h2 _ => t3 _ _ (by omega)) (fun c t h1 h2 _ _ => t3 _ _ (by omega)), e639, ?_, fun c g h1 h2 h3 => ?_, fun c g h => ?_, ?_⟩
  · rw [a1]
    unfold kEnd
    rw [j268, sp_bd, j269, sp_bd, sp_if (by rw [l39]; omega), sp_b, Int.toNat_natCast, ← hT3, sp_if (by rw [l39]; omega), sp_b, e639]
  · have okk : (big ≠ 0 ∧ ∀ m, 0 ≤ m → m < N → okR (320 * p + m) T2) ↔ OKp N p T3 := by
      unfold OKp
      rw [t3 643 _ (by omega)]
      refine ⟨fun ⟨h1, h2⟩ => ⟨fun m hm => (ok m).mpr (h2 m (by omega) hm), ?_⟩, fun ⟨h1, h2⟩ => ⟨?_, fun m _ hm => (ok m).mp (h1 m hm)⟩⟩
      · by_cases z : 200 < T2.1 643 (320 * p)
        · rw [if_pos z] at hbig
          exact absurd hbig h1
        · omega
      · rw [if_neg (by omega)] at hbig
        omega
    have edd : ((0 : Int) ≠ 0 ∨ ∃ m, 0 ≤ m ∧ m < N ∧ edR (320 * p + m) T2) ↔ ∃ m, m < N ∧ edR (320 * p + m) T3 := by
      constructor
      · rintro (z | ⟨m, _, h1, h2⟩)
        · exact absurd rfl z
        · exact ⟨m, h1, (ed m).mpr h2⟩
      · rintro ⟨m, h1, h2⟩
        exact Or.inr ⟨m, by omega, h1, (ed m).mp h2⟩
    rcases c2 with ⟨y1, y2⟩ | ⟨y1, ⟨y2, y3⟩ | ⟨y2, y3⟩⟩
    · exact Or.inl ⟨y1, fun z => y2 (okk.mpr z)⟩
    · exact Or.inr ⟨okk.mp y1, Or.inl ⟨y2, edd.mp y3⟩⟩
    · exact Or.inr ⟨okk.mp y1, Or.inr ⟨y2, fun z => y3 (edd.mpr z)⟩⟩
  · rw [t3 c g h3, b3 c g (by omega), a7 c g h1]
  · rw [t3b, b4, a8 c g h]
  · rw [t3b, b4, a9]
/-- the class's cells of a pattern -/
def AGC (k : Nat) (S0 S : ev_St) : Prop := ∀ x i, k ≤ x → x < k + 20 → S.1 x i = S0.1 x i ∧ S.2.1 x i = S0.2.1 x i
/-- the reference's tables and numbers of a pattern -/
def AGR (p : Nat) (T0 T : ev_St) : Prop := (∀ c g, (625 ≤ c ∧ c ≤ 632) ∨ (640 ≤ c ∧ c ≤ 643) → 320 * p ≤ g → g < 320 * p + 320 → T.1 c g = T0.1 c g) ∧ (∀ c g, 633 ≤ c → c ≤ 634 → 320 * p ≤ g → g < 320 * p + 320 → T.2.1 c g = T0.2.1 c g) ∧ (∀ c, c = 635 ∨ c = 636 → T.1 c p = T0.1 c p) ∧ (∀ j, j < 10 → T.1 637 (10 * p + j) = T0.1 637 (10 * p + j)) ∧ ∀ l, l < 26 → T.1 638 (26 * p + l) = T0.1 638 (26 * p + l)
/-- its engine and program -/
def AGP (p : Nat) (T1 T : ev_St) : Prop := T.1 639 p = T1.1 639 p ∧ T.1 665 p = T1.1 665 p ∧ ∀ c g, 662 ≤ c → c ≤ 664 → 210 * p ≤ g → g < 210 * p + 210 → T.1 c g = T1.1 c g
def ENGB (k N p : Nat) (φ : Nat → Nat) (S0 T0 T1 : ev_St) : Prop := (¬ OKp N p T0 ∧ S0.1 k 14 = 0 ∧ S0.1 k 15 = 0 ∧ T1.1 639 p = 0) ∨ (OKp N p T0 ∧ S0.1 k 14 = 1 ∧ ((S0.1 k 15 = 0 ∧ T1.1 639 p = 1) ∨ (S0.1 k 15 = 1 ∧ T1.1 639 p = 3 ∧ ¬ ∃ m, m < N ∧ edR (320 * p + m) T0)) ∧ ∃ CA CI L, PRG k N p φ S0 T0 CA CI ∧ (∀ j x, L[j]? = some x → rd3 662 663 664 (210 * p + j) T1 x) ∧ RLs (RX k N p φ S0 T0) 0 (CA 0 ++ [ins 6 0]) L ∧ T1.1 665 p = ((CA 0).length : Int))
def KEPT0 (k N M p : Nat) (φ ψ own up : Nat → Nat) (W : Nat → FV) (S0 T0 T1 : ev_St) : Prop := FINX k N M φ ψ own up S0 (sft p T0) ∧ (∀ m, m < N → FQ (320 * p) T0 m) ∧ WQ k N M φ ψ S0 (sft p T0) W M ∧ NUM29 k φ W S0 ∧ RLt S0 (k + 18) (litR k M S0) ∧ ENGB k N p φ S0 T0 T1
/-- what stands of a kept pattern -/
def KEPT (k p : Nat) (S T : ev_St) : Prop := ∃ S0 T0 T1 N M φ ψ own up W, KEPT0 k N M p φ ψ own up W S0 T0 T1 ∧ AGC k S0 S ∧ AGR p T0 T ∧ AGP p T1 T
theorem KEPT_c (h : KEPT k p S T) (h1 : AGC k S S2) (h2 : AGR p T T2) (h3 : AGP p T T2) : KEPT k p S2 T2 := by
  obtain ⟨S0, T0, T1, N, M, φ, ψ, own, up, W, a, b, c, d⟩ := h
  refine ⟨S0, T0, T1, N, M, φ, ψ, own, up, W, a, fun x i x1 x2 => ⟨((h1 x i x1 x2).1).trans (b x i x1 x2).1, ((h1 x i x1 x2).2).trans (b x i x1 x2).2⟩, ⟨fun x g y1 y2 y3 => (h2.1 x g y1 y2 y3).trans (c.1 x g y1 y2 y3), fun x g y1 y2 y3 y4 => (h2.2.1 x g y1 y2 y3 y4).trans (c.2.1 x g y1 y2 y3 y4), fun x y => (h2.2.2.1 x y).trans (c.2.2.1 x y), fun j y => (h2.2.2.2.1 j y).trans (c.2.2.2.1 j y), fun j y => (h2.2.2.2.2 j y).trans (c.2.2.2.2 j y)⟩, h3.1.trans d.1, h3.2.1.trans d.2.1, fun x g y1 y2 y3 y4 => (h3.2.2 x g y1 y2 y3 y4).trans (d.2.2 x g y1 y2 y3 y4)⟩
theorem pk_ob : ∀ p, p < 12 → ev_isOb (313 + 20 * p) 5 = true ∧ ev_isOb (313 + 20 * p + 18) 10 = true := by decide +kernel
theorem pk_al : ∀ p, p < 12 → al5 (313 + 20 * p + 12) := by
  unfold al5
  decide +kernel
/-- what the reference's keeping may change -/
def RTc (p c g : Nat) : Prop := KPc p c g ∨ ((640 ≤ c ∧ c ≤ 643) ∧ 320 * p ≤ g ∧ g < 320 * p + 320) ∨ (c = 639 ∧ g = p) ∨ (c = 621 ∧ (g = 54 ∨ g = 59)) ∨ ((662 ≤ c ∧ c ≤ 664) ∧ 210 * p ≤ g ∧ g < 210 * p + 210) ∨ (666 ≤ c ∧ c ≤ 668) ∨ (c = 665 ∧ g = p)
theorem keep_two (hF : FINX k N M φ ψ own up S T) (hp : p < 12) (hkp : k = 313 + 20 * p) (hQ : QBp Q) : ∃ V T2, jm_29 Q (k + 1) S = some ((), V) ∧ FR29 k S V ∧ jm_270 Q (p : Int) T = some ((), T2) ∧ KEPT k p V T2 ∧ (∀ c g, ¬ RTc p c g → T2.1 c g = T.1 c g) ∧ (∀ c g, ¬ (633 ≤ c ∧ c ≤ 634 ∧ 320 * p ≤ g ∧ g < 320 * p + 320) → T2.2.1 c g = T.2.1 c g) ∧ T2.2.2 = T.2.2 ∧ ∀ c g : Nat, 662 ≤ c → c ≤ 664 → g < 210 → T2.1 639 p ≠ 0 → T2.1 665 p < (g : Int) → T2.1 c (210 * p + g) = T.1 c (210 * p + g) := by
  have hQ1 : 1000000 ≤ Q := hQ.2
  obtain ⟨k1, k2⟩ := pk_ob p hp
  have k3 := pk_al p hp
  rw [← hkp] at k1 k2 k3
  have hN0 : 0 < N := hF.1.1.2.2.1
  obtain ⟨T3, v, a1, a2, a3, a4, a5, a6, a7, a8⟩ := ref_keep (Q := Q) hF hp (by omega)
  obtain ⟨V, W, b1, b2, hF2, b4, b5, b6, b7⟩ := sp_29 (Q := Q) a2 a3 k1 (by omega) k3 k2 (by omega)
  have agc : AGC k V V := fun _ _ _ _ => ⟨rfl, rfl⟩
  have agr : ∀ T2 : ev_St, (∀ c, 625 ≤ c → c ≤ 643 → T2.1 c = T3.1 c) → T2.2 = T3.2 → AGR p T3 T2 := fun T2 h1 h2 => by
    refine ⟨fun c g y _ _ => by rw [h1 c (by omega) (by omega)], fun c g y _ _ _ => by rw [h2], fun c y => by rw [h1 c (by omega) (by omega)], fun j _ => by rw [h1 637 (by omega) (by omega)], fun l _ => by rw [h1 638 (by omega) (by omega)]⟩
  rcases a5 with ⟨y1, y2⟩ | ⟨y1, y2⟩
  · refine ⟨V, T3, b1, b2, by rw [a1, if_pos (by omega)], ⟨V, T3, T3, N, M, φ, ψ, own, up, W, ⟨hF2, a3, b4, b5, b6, ?_⟩, agc, agr T3 (fun _ _ _ => rfl) rfl, rfl, rfl, fun _ _ _ _ _ _ => rfl⟩, fun c g h => ?_, a7, a8, fun c g c1 c2 g1 n1 _ => absurd (a4.trans y1) n1⟩
    · rcases b7 with ⟨_, z2, z3⟩ | ⟨z, _⟩
      · exact Or.inl ⟨y2, z2, z3, by rw [a4, y1]⟩
      · exact absurd z y2
    · unfold RTc at h
      exact a6 c g (fun z => h (Or.inl z)) (fun z => h (Or.inr (Or.inl z))) (fun z => h (Or.inr (Or.inr (Or.inl z))))
  · rcases b7 with ⟨z, _⟩ | ⟨_, z2, z3, CA, CI, z4⟩
    · exact absurd y1 z
    · obtain ⟨T4, L, c1, c2, c3, c4, c5, c6⟩ := prog_R (Q := Q) hF2 y1.1 z4.1 hp z4.2.2.2.2 hQ.1
      have e639 : T4.1 639 p = v := by
        rw [c2.1 _ _ (by omega) (by omega) (by omega) (by omega), a4]
      refine ⟨V, T4, b1, b2, ?_, ⟨V, T3, T4, N, M, φ, ψ, own, up, W, ⟨hF2, a3, b4, b5, b6, Or.inr ⟨y1, z2, ?_, CA, CI, L, z4, c3, c4, c5⟩⟩, agc, agr T4 (fun c h1 h2 => funext fun g => c2.1 _ _ (by omega) (by omega) (by omega) (by omega)) c2.2, rfl, rfl, fun _ _ _ _ _ _ => rfl⟩, fun c g h => ?_, fun c g h => ?_, ?_, fun c g x1 x2 g1 _ n2 => ?_⟩
      · rw [a1, if_neg (by omega), c1, sp_bd]
      · rw [e639]
        rcases y2 with ⟨w1, w2⟩ | ⟨w1, w2⟩
        · rcases z3 with ⟨u1, u2⟩ | ⟨u1, u2⟩
          · exact Or.inl ⟨u1, w1⟩
          · exact absurd w2 u2
        · rcases z3 with ⟨u1, u2⟩ | ⟨u1, u2⟩
          · exact absurd u2 w2
          · exact Or.inr ⟨u1, w1, w2⟩
      · unfold RTc at h
        rw [c2.1 c g (fun z => h (Or.inr (Or.inr (Or.inr (Or.inl z))))) (fun z => h (Or.inr (Or.inr (Or.inr (Or.inr (Or.inl z)))))) (fun z => h (Or.inr (Or.inr (Or.inr (Or.inr (Or.inr (Or.inl z))))))) (fun z => h (Or.inr (Or.inr (Or.inr (Or.inr (Or.inr (Or.inr z)))))))]
        exact a6 c g (fun z => h (Or.inl z)) (fun z => h (Or.inr (Or.inl z))) (fun z => h (Or.inr (Or.inr (Or.inl z))))
      · rw [c2.2]
        exact a7 c g h
      · rw [c2.2]
        exact a8
      · rw [c5] at n2
        rw [c6 c g x1 x2 (by omega)]
        exact a6 c _ (by unfold KPc; omega) (by omega) (by omega)
end PATN
