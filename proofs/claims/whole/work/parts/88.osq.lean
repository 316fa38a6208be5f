/-! PLAY: the call -/
section OSQ
variable {Q p k t m i j len b G cnt L : Nat} {n a0 a1 : Int} {S S1 S2 S' T T1 T2 T' U V W X C : ev_St} {xs : Nat → Int32} {D : lg_D}
def FRpe (T T5 : ev_St) : Prop := (∀ c g, ¬ (c = 621 ∧ ((73 ≤ g ∧ g ≤ 105) ∨ g = 113 ∨ g = 125 ∨ g = 126 ∨ g = 128 ∨ g = 130 ∨ g = 131)) → ¬ (678 ≤ c ∧ c ≤ 699) → ¬ (702 ≤ c ∧ c ≤ 708) → c ≠ 710 → ¬ (712 ≤ c ∧ c ≤ 715) → T5.1 c g = T.1 c g) ∧ (∀ c g, T5.2.1 c g = T.2.1 c g) ∧ (∀ c g, T5.2.2.1 c g = T.2.2.1 c g) ∧ T5.2.2.2 = T.2.2.2
theorem FRpe_p (h : FRpl T T1) : FRpe T T1 := ⟨fun c g y1 y2 y3 y4 y5 => h.1 c g (by omega) y2 y3 y4 (by omega) (by omega), h.2⟩
theorem FRpe_t (h : FRpe T T1) (g : FRpe T1 T2) : FRpe T T2 := ⟨fun c i y1 y2 y3 y4 y5 => (g.1 c i y1 y2 y3 y4 y5).trans (h.1 c i y1 y2 y3 y4 y5), fun c i => (g.2.1 c i).trans (h.2.1 c i), fun c i => (g.2.2.1 c i).trans (h.2.2.1 c i), g.2.2.2.trans h.2.2.2⟩
/-- what playing comes to, on both sides -/
theorem play_done (hQ : 40000000000 ≤ Q) (hn : 0 ≤ n ∧ n ≤ 511) (hK : sp_PT S) (hTR : sp_TR S) (hG : SG S) (hLG : LG n D S) (h8 : B8 D S S) (hP : PLY S G cnt) (hb : b < 3) (hl : S.1 (263 + 2 * b) 1 = (len : Int)) (hW : jm_43 Q (263 + 2 * b + 1) S = some ((), W)) (hT : RFq S T) : ∃ T1, jm_288 Q (b : Int) T = some ((), T1) ∧ ((∃ S' T' : ev_St, jl_194_64 Q (G : Int) (b : Int) Q (305 + G) 0 0 W = some (.inr "java/lang/IllegalStateException", ev_tick S') ∧ jl_361_50 Q (G : Int) (b : Int) Q (30 * (G : Int)) T1 = some (0, ev_pI T' 621 0 2) ∧ FRpe T T' ∧ (∀ c g, ¬ (269 ≤ c ∧ c ≤ 283) → S'.1 c g = S.1 c g) ∧ (∀ c g, S'.2.1 c g = S.2.1 c g) ∧ (∀ c g, c ≠ 281 → S'.2.2.1 c g = S.2.2.1 c g) ∧ S'.2.2.2 = S.2.2.2 ∧ FRm T T') ∨ (∃ (v : Int) (D' : lg_D) (C T5 : ev_St), jl_194_64 Q (G : Int) (b : Int) Q (305 + G) 0 0 W = some (.inl v, C) ∧ jl_361_50 Q (G : Int) (b : Int) Q (30 * (G : Int)) T1 = some (v, T5) ∧ L2 (n + 1) D' C T5 ∧ B8 D' C T5 ∧ FRpe T T5 ∧ (∀ c g, c < 724 → ¬ (269 ≤ c ∧ c ≤ 283) → c ≠ 258 → ¬ (261 ≤ c ∧ c ≤ 268) → ¬ (c = 254 ∧ 9 ≤ g ∧ g ≤ 13) → C.1 c g = S.1 c g) ∧ (∀ c g, C.2.1 c g = S.2.1 c g) ∧ (∀ c j, c ≠ 259 → c ≠ 260 → c ≠ 281 → C.2.2.1 c j = S.2.2.1 c j) ∧ (ev_sC C + ev_sN S = ev_sC S + ev_sN C ∧ ev_sZ C + 1024 * ev_sN S = ev_sZ S + 1024 * ev_sN C))) := by
  have hB : sp_BR S := hLG.2.1.2.2.2.1
  have l80 : len ≤ 80 := by
    have := h8.1 b hb
    omega
  obtain ⟨b1, b2, b3, b4⟩ := hB b hb
  obtain ⟨W', w1, w2, w3, w4, w5, w6, w7⟩ := sp_43 (Q := Q) (S := S) hb
  have e : W' = W := (congrArg Prod.snd (Option.some.inj (hW.symm.trans w1))).symm
  subst e
  obtain ⟨T1, t1, t2, t3, t4, t5⟩ := sp_288 (Q := Q) (m := b) (len := len) (T := T) hb (by omega) (by rw [hT.1 707 b (by omega) (by omega) (by omega) (by omega) (by omega), b3]; exact hl) (by omega)
  have f1 : FRm T T1 := ⟨fun c g y1 y2 y3 => t4 c g (by omega) (by omega), fun _ _ => by rw [t5], fun _ _ => by rw [t5], by rw [t5]⟩
  have wF : FCm S W' := ⟨fun c g y => w6 c g (by omega) (by omega) (by omega), fun _ _ => by rw [w7], fun _ _ _ => by rw [w7], by rw [w7]⟩
  have c10 := hP.1.2
  have t708 : ∀ g, g < len → T.1 708 (200 * b + g) = W'.1 271 g := fun g hg => by
    rw [w3 g (by omega), hT.1 708 _ (by omega) (by omega) (by omega) (by omega) (by omega), (b4 g (by omega)).1]
  have hU : TXW len 0 0 S W' := ⟨l80, by rw [w2]; exact hl, fun i hi => by rw [w3 i (by omega)]; exact hG b hb i (by omega), w4, w5, fun c g y _ => wF.1 c g y, fun c g _ => wF.2.1 c g⟩
  refine ⟨T1, t1, ?_⟩
  have pl := pl_ind (Q := Q) (n := n) (b := b) hQ hK hTR hP hb (by omega) cnt 0 Q Q len 0 0 0 W' T1 (by omega) (by omega) (by omega) hU (by omega) (by omega) (by omega) (RFw_m (RFw_of hT) f1) t2 (fun j hj => (t3 j hj).trans (t708 j hj))
  have e30 : 30 * (G : Int) + 3 * ((0 : Nat) : Int) = 30 * (G : Int) := by omega
  have e0 : ((0 : Nat) : Int) = 0 := rfl
  rw [e30, e0] at pl
  rcases pl with ⟨S', T', z1, z2, z3, z4⟩ | ⟨SF, TF, c1, s1, z1, z2, z3, z4, ⟨z5, z6⟩, _, _, ⟨z9, z10⟩, z11⟩
  · have f := FCm_t wF z3
    exact Or.inl ⟨S', T', z1, z2, FRpe_p (FRpl_m (FRm_t f1 z4)), f.1, f.2.1, f.2.2.1, f.2.2.2, FRm_t f1 z4⟩
  · refine Or.inr ?_
    have f := FCm_t wF z3
    have fT := FRm_t f1 z4
    have tS : ∀ k g, 707 ≤ k ∧ k ≤ 715 ∨ (k = 621 ∧ (g = 121 ∨ (125 ≤ g ∧ g ≤ 132))) → TF.1 k g = S.1 k g := fun k g hk => by rw [fT.1 k g (by omega) (by omega) (by omega), hT.1 k g (by omega) (by omega) (by omega) (by omega) (by omega)]
    have L0 : L2 n D SF TF := L2_c2 (L2_of hLG) (fun k g hk => f.1 k g (by omega)) (fun a j ha => f.2.2.1 a j (by omega)) (by unfold ev_sN; rw [f.2.2.2]) tS
    have B0 : B8 D SF TF := B8_c h8 (fun b hb => f.1 _ _ (by omega)) (f.1 _ _ (by omega)) (fun g => tS _ _ (by omega))
    obtain ⟨E0, hE1, hE2, hLT⟩ := lg_T_of L0
    obtain ⟨cc, hcc⟩ : ∃ cc, (SF.1 254 9).toNat = cc := ⟨_, rfl⟩
    rw [hcc] at hLT
    have hcE := hLT.1.1
    have hdc := lg_mono2 hLT.1.2.2.2.2.2.1 hcE (Nat.le_refl _)
    obtain ⟨E', D', C1, T3, x1, x2, x3, x4, x5, x6, x7, x8, x9, x10⟩ := z11 Q Q 0 SF TF cc E0 D (by omega) (by omega) (by omega) (RFw_m (RFw_of hT) fT) hLT (by rw [f.1 _ _ (by omega)]; exact hl) (fun g hg => by rw [fT.1 708 _ (by omega) (by omega) (by omega)]; exact t708 g hg) (Int.le_refl _) (fun _ _ _ _ _ => rfl) (fun _ _ => rfl) (by omega) (by omega)
    rw [x2] at z2
    have e47 : jm_47 Q 255 (b : Int) SF = jl_47_5 Q 255 (b : Int) (Q - c1) (0 + (s1 : Int)) ((0 + c1 : Nat) : Int) C1 := x1
    have fC : ∀ c g, c < 724 → ¬ (269 ≤ c ∧ c ≤ 283) → c ≠ 258 → ¬ (261 ≤ c ∧ c ≤ 268) → ¬ (c = 254 ∧ 9 ≤ g ∧ g ≤ 13) → C1.1 c g = S.1 c g := fun c g g1 g2 g3 g4 g5 => by rw [x5.1 c g g1 g3 (by omega) (by omega) g5, f.1 c g g2]
    have c9 : C1.1 269 9 ≤ ((0 + c1 : Nat) : Int) := by
      rw [x5.1 269 9 (by omega) (by omega) (by omega) (by omega) (by omega), z5]
      exact Int.le_refl _
    have go : ∀ C, jm_3 Q C1 = some ((), C) → jm_47 Q 255 (b : Int) SF = some ((), C) := fun C hC => by
      obtain ⟨q, hq⟩ : ∃ q, Q - c1 = q + 1 := ⟨Q - c1 - 1, by omega⟩
      rw [e47, hq]
      show jb_47_5 Q 255 (b : Int) (jl_47_5 Q 255 (b : Int) q) _ _ C1 = _
      unfold jb_47_5
      rw [sp_b, sp_jn, if_pos c9]
      try dsimp only
      rw [sp_if (by decide), hC, sp_bd]
    have vv : (0 : Int) + (c1 : Int) = (c1 : Int) := by omega
    have cnt2 : ev_sC C1 + ev_sN S = ev_sC S + ev_sN C1 ∧ ev_sZ C1 + 1024 * ev_sN S = ev_sZ S + 1024 * ev_sN C1 := by
      have q := x5.2.2.2.2
      have q2 := f.2.2.2
      unfold ev_sC ev_sN ev_sZ at q ⊢
      rw [q2] at q
      exact q
    rcases x4 with ⟨y1, y2, y3, y4, y5⟩ | ⟨y1, y2, y3, y4⟩
    · subst y4
      have fT3 := FRm_t fT y5
      have tS3 : ∀ k g, 707 ≤ k ∧ k ≤ 715 ∨ (k = 621 ∧ (g = 121 ∨ (125 ≤ g ∧ g ≤ 132))) → T3.1 k g = S.1 k g := fun k g hk => by rw [fT3.1 k g (by omega) (by omega) (by omega), hT.1 k g (by omega) (by omega) (by omega) (by omega) (by omega)]
      have L3 : L2 n D C1 T3 := L2_c2 (L2_of hLG) (fun k g hk => f.1 k g (by omega)) (fun a j ha => f.2.2.1 a j (by omega)) (by unfold ev_sN; rw [f.2.2.2]) tS3
      have l0 : C1.1 254 14 = 0 → C1.1 254 11 = 0 := L3.2.2.1
      have c3 : jm_3 Q C1 = some ((), C1) := by
        unfold jm_3
        rw [sp_b]
        by_cases z : C1.1 254 14 ≠ 0
        · rw [if_pos z]
        · rw [if_neg z, sp_b, if_pos (l0 (Decidable.not_not.mp z))]
      have c345 : jm_345 Q T3 = some ((), T3) := by
        have q1 := L3.1.2.2.1
        have q2 := L3.1.2.2.2
        unfold jm_345
        rw [sp_b]
        by_cases z : T3.1 621 132 ≠ 0
        · rw [if_pos z]
        · have z' := Decidable.not_not.mp z
          have z2 := l0 (by rw [← q1]; exact z')
          rw [if_neg z]
          unfold jm_344
          rw [sp_b, if_pos (by omega), sp_bd]
      rw [go C1 c3, sp_bd, vv] at z1
      rw [c345, sp_bd, vv] at z2
      exact ⟨c1, D, C1, T3, z1, z2, L2_mono (by omega) L3, B8_c h8 (fun b hb => f.1 _ _ (by omega)) (f.1 _ _ (by omega)) (fun g => tS3 _ _ (by omega)), FRpe_p (FRpl_m fT3), fC, f.2.1, fun c j _ _ g3 => f.2.2.1 c j g3, cnt2⟩
    · subst y1
      obtain ⟨C, T5, d1, d2, d3, d4, d5, d6, d7, d8⟩ := lg_T_end (Q := Q) x3 hn.2 ⟨y2, y3, y4⟩ (by omega) (by omega)
      rw [go C d1, sp_bd, vv] at z1
      rw [d2, sp_bd, vv] at z2
      have dl : ∀ b', b' < 3 → dL D' (cc + c1) b' ≤ 80 := fun b' hb' => by
        by_cases z : b' = b
        · subst z
          rw [← x3.1.2.1.2.2 b' hb']
          exact x7
        · rw [x9 b' z, ← hLT.1.2.1.2.2 b' hb']
          exact B0.1 b' hb'
      have e714 : T3.1 714 = TF.1 714 := funext fun g => x6.1 714 g (by omega) (by omega) (by omega) (by omega) (by omega) (by omega)
      have e12 : C1.1 254 12 = SF.1 254 12 := x5.2.1
      refine ⟨c1, D', C, T5, z1, z2, d3, ⟨fun b' hb' => ?_, fun b' hb' => ?_, fun g hg b' hb' => ?_⟩, FRpe_t (FRpe_p (FRpl_t (FRpl_m fT) x6)) ⟨fun c g y1 y2 y3 y4 y5 => d7 c g (by omega) (by omega) (by omega), fun _ _ => by rw [d8], fun _ _ => by rw [d8], by rw [d8]⟩, fun c g g1 g2 g3 g4 g5 => by rw [d5 c g (by omega) (by omega)]; exact fC c g g1 g2 g3 g4 g5, fun c g => by rw [d6, x5.2.2.1, f.2.1], fun c j g1 g2 g3 => by rw [d6, x5.2.2.2.1 c j g1 g2, f.2.2.1 c j g3], ?_⟩
      · rw [d5 _ _ (by omega) (by omega), x3.1.2.1.2.2 b' hb']
        exact dl b' hb'
      · rw [x8 0 (Nat.zero_le _) b']
        exact B0.2.1 b' hb'
      · rcases d4 g hg with y | ⟨y1, y2⟩
        · rw [y, Int.toNat_natCast]
          exact dl b' hb'
        · have mn : ∀ g : Nat, (g : Int) < SF.1 254 12 → TF.1 714 g = sp_bs (TF.1 714) g + SF.1 261 g ∧ 0 ≤ SF.1 261 g := fun g hg => ⟨(hLT.2.2.2.2.2.2.2 g hg).1, (hLT.2.2.2.2.2.2.2 g hg).2.1⟩
          have q2 := t_le mn (g := g) (by omega)
          have q3 := hLT.2.2.2.2.1
          have q4 := hLT.2.2.2.1.2
          rw [y2, e714, x8 _ (by omega) b']
          have q5 := L0.2.1.2.1
          exact B0.2.2 g (by omega) b' hb'
      · unfold ev_sC ev_sN ev_sZ at cnt2 ⊢
        rw [d6]
        exact cnt2
end OSQ
