/-! BEGINS: the call -/
section OPXS
variable {Q k p N M m n g L j : Nat} {xs : Nat → Int32} {φ ψ own up : Nat → Nat} {S S0 S2 T T0 U V : ev_St} {W : Nat → FV} {a : Int}
def sp_W7 (b g : Nat) : Prop := (b = 621 ∧ g = 0) ∨ (658 ≤ b ∧ b ≤ 661)
theorem sp_F_w {W W2 : Nat → Nat → Prop} (h : sp_F W S S2) (hw : ∀ b g, W b g → W2 b g) : sp_F W2 S S2 := ⟨fun b g y => h.1 b g (fun z => y (hw b g z)), h.2⟩
theorem op_7 (hQ : 1000000 ≤ Q) (hK : sp_PT S) (hL : L ≤ 3072) (hj : j + 6 ≤ L) : ∃ S2, (∀ K, ja_513 Q L xs (j : Int) K S = K S2) ∧ sp_F sp_W7 S S2 := by
  obtain ⟨a, ha⟩ : ∃ a, a = (xs (Int.toNat ((j : Int) + 1))).toInt := ⟨_, rfl⟩
  obtain ⟨b, hb⟩ : ∃ b, b = (xs (Int.toNat ((j : Int) + 2))).toInt := ⟨_, rfl⟩
  have l35 : ev_aln 635 = 13 := al_K.2.2.2.2.2.2.2.2.2.2.1
  have l41 := al_F.2.1
  obtain ⟨l58, _⟩ := al658
  have wc : ∀ c g, sp_Wc c g → sp_W7 c g := fun c g y => Or.inl y
  by_cases h : 0 ≤ a ∧ a < S.1 0 5
  · obtain ⟨p, hp⟩ : ∃ p : Nat, a = (p : Int) := ⟨a.toNat, by omega⟩
    have k12 := hK.1.2.1
    by_cases hs : sp_sign b = 1
    · obtain ⟨S0, T0, T1, N, M, φ, ψ, own, up, W, ⟨hF, hq, hw, hn, _, _⟩, agc, agr, _⟩ := hK.2 p (by omega)
      have hN : N ≤ 320 := hF.2.1.2.2.2
      have hN0 : 0 < N := hF.1.1.2.2.1
      have ψ0 : ψ 0 = φ 0 := hF.1.1.2.1.2.1
      obtain ⟨k, hk⟩ : ∃ k, k = 313 + 20 * p := ⟨_, rfl⟩
      rw [← hk] at hF hw hn agc
      have e16 : S.1 k 16 = T0.1 641 (320 * p) := by
        rw [(agc k 16 (by omega) (by omega)).1, hn.1]
        have lb := (LB_all hF hw hq N 0 hN0 (by omega)).2.1
        rw [ψ0] at lb
        exact lb
      have e641 : S.1 641 (320 * p) = T0.1 641 (320 * p) := agr.1 641 _ (by omega) (by omega) (by omega)
      have efs : ∀ c, cs (S.2.1 k 17) (S.2.1 k 18) c = 1 ↔ (W (ψ 0)).2.2.1 c := fun c => by
        rw [(agc k 17 (by omega) (by omega)).2, (agc k 18 (by omega) (by omega)).2, ψ0, ← hn.2.1]
      obtain ⟨v, hv⟩ : ∃ v : Int, v = if T0.1 641 (320 * p) = 0 then 1 else cs (S.2.1 k 17) (S.2.1 k 18) b := ⟨_, rfl⟩
      have cs01 : cs (S.2.1 k 17) (S.2.1 k 18) b = 1 ∨ cs (S.2.1 k 17) (S.2.1 k 18) b = 0 := by
        unfold cs
        exact if01
      have c1 : jm_173 Q a b S = some (.inl v, S) := by
        unfold jm_173
        rw [(sp_200 hK).1 h, sp_bd, if_neg (by omega), hp, Int.toNat_natCast, ← hk, show k + 1 - 1 = k from rfl, sp_207, hs, sp_bd, if_pos (by decide), sp_b, e16]
        by_cases z : T0.1 641 (320 * p) = 0
        · rw [if_pos z, sp_if (Or.inr rfl), hv, if_pos z]
        · rw [if_neg z, sp_b, sp_b, sp_214, sp_bd, hv, if_neg z]
          rcases cs01 with y | y
          · rw [y, if_neg (by decide), sp_if (Or.inr rfl)]
          · rw [y, if_pos rfl, sp_if (Or.inl rfl)]
      obtain ⟨U, hU⟩ : ∃ U, U = ev_pI (ev_pL S 723 0 (sp_bL v)) 621 0 0 := ⟨_, rfl⟩
      have ag : AG0 p T0 U := by
        refine AG0_c (AG0_of agr) (fun c i y1 y2 => ?_) (fun c i y1 => ?_)
        · rw [hU, sp_pI1, if_neg y2]
          rfl
        · rw [hU, sp_pI2, sp_pL2, if_neg (by omega)]
      have e635 : U.1 635 p = (N : Int) := by
        have q := hF.2.1.2.2.1
        rw [sft_5 (Or.inl rfl)] at q
        rw [ag.2.2]
        exact q
      obtain ⟨V, r1, r2, r3, r4⟩ := run276 (Q := Q) (a := b) (by omega) hN (by omega) hs (CHN_of hF) (MKQ_of hF hw hq hs) N Q U (by omega) (Nat.le_refl _) ag (fun t t1 t2 => absurd t2 (by omega))
      have j276 : jm_276 Q a b U = some ((), V) := by
        unfold jm_276
        rw [hp, sp_ck (by omega), sp_if (by rw [l35]; omega), sp_b, Int.toNat_natCast, e635, sp_ck (by omega)]
        exact r1
      have m0 := r2 0 hN0
      have v641 : V.1 641 (320 * p) = T0.1 641 (320 * p) := by
        rw [r3 _ _ (by decide)]
        exact ag.1 641 0 (by omega) (by omega)
      have v621 : V.1 621 0 = 0 := by rw [r3 _ _ (by decide), hU, rd_eq]
      have j277 : jm_277 Q a b (ev_pL S 723 0 (sp_bL v)) = some (v, V) := by
        have tl : ∀ JJ : Int → ev_St → Option (Int × ev_St), ev_jn JJ (fun K25 => if (1 : Int) ≠ 0 then (ev_bd (jm_223 Q b (ev_pL S 723 0 (sp_bL v))) fun x20 s19 => if x20 = 0 then (K25 2 s19) else (K25 0 s19)) else (K25 1 (ev_pL S 723 0 (sp_bL v)))) = JJ 0 (ev_pL S 723 0 (sp_bL v)) := fun JJ => by
          rw [sp_jn, if_pos (by decide), sp_223, hs, sp_bd, if_neg (by decide)]
        unfold jm_277
        rw [sp_273y (PT_L hK) h, sp_bd, tl]
        try dsimp only
        rw [sp_b, ← hU, sp_b, show U.1 621 0 = 0 from by rw [hU, rd_eq], if_pos (Int.le_refl 0), j276, sp_bd, sp_if (by rw [l58]; omega), sp_b, show (Int.toNat 0) = 0 from rfl]
        rcases m0 with ⟨y1, y2⟩ | ⟨y1, y2⟩
        · rw [if_pos (by omega), hv]
          by_cases z : T0.1 641 (320 * p) = 0
          · rw [if_pos z]
          · rw [if_neg z, (efs b).mpr y2]
        · rw [if_neg (by omega), hp, sp_ck (by omega), sp_if (by rw [l41]; omega), sp_b, show (320 * (p : Int)).toNat = 320 * p from by omega, v641, hv]
          by_cases z : T0.1 641 (320 * p) = 0
          · rw [if_neg (fun w => w z), if_pos z]
          · rw [if_pos z, if_neg z, cs01.resolve_left (fun w => y2 ((efs b).mp w))]
      refine ⟨V, fun K => la_7 (c := 0) (b := v) hL hj (by rw [← ha, ← hb]; exact lw_7_ok a b c1) (by rw [← ha, ← hb]; exact j277) v621 (fun _ => ?_), fun c g y => ?_, fun c g y => ?_, ?_, ?_, ?_, ?_, ?_⟩
      · rw [r4, hU]
        exact rd_L
      · unfold sp_W7 at y
        rw [r3 c g (by omega), hU, sp_pI1, if_neg (by omega)]
        rfl
      · rw [r4, hU, sp_pI2, sp_pL2, if_neg (fun z => y z.1)]
      · rw [r4, hU]
        rfl
      · rw [r4, hU]
        rfl
      · rw [r4, hU]
        rfl
      · rw [r4, hU]
        exact Nat.le_succ _
      · rw [r4, hU]
        exact Nat.le_add_right _ _
    · have hs0 : sp_sign b = 0 := by
        have := @if01 (b = 10 ∨ (32 ≤ b ∧ b ≤ 126)) _
        unfold sp_sign at hs ⊢
        exact this.resolve_left hs
      refine ⟨_, fun K => la_7 (S2 := ev_pI (ev_tick S) 621 0 2) (c := 2) (b := 0) hL hj (by
        rw [← ha, ← hb]
        refine lw_7_x1 a b ?_
        unfold jm_173
        rw [(sp_200 hK).1 h, sp_bd, if_neg (by omega), sp_207, hs0, sp_bd, if_neg (fun z => z rfl)]) (by
        rw [← ha, ← hb]
        unfold jm_277
        rw [sp_273y (PT_t hK) h, sp_bd, sp_jn, if_pos (by decide), sp_223, hs0, sp_bd, if_pos rfl]
        try dsimp only
        rw [sp_b, sp_b, rd_eq, if_neg (by decide)]) rd_eq (fun q => by cases q), sp_F_w sp_F_no wc⟩
  · refine ⟨_, fun K => la_7 (S2 := ev_pI (ev_tick S) 621 0 1) (c := 1) (b := 0) hL hj (by
      rw [← ha, ← hb]
      refine lw_7_x0 a b ?_
      unfold jm_173
      rw [(sp_200 hK).2 h, sp_bd, if_pos rfl]) (by
      rw [← ha, ← hb]
      unfold jm_277
      rw [sp_273n (PT_t hK) h, sp_bd, sp_jn, if_neg (fun z => z rfl)]
      try dsimp only
      rw [sp_b, sp_b, rd_eq, if_neg (by decide)]) rd_eq (fun q => by cases q), sp_F_w sp_F_no wc⟩
end OPXS
