/-! M1: the log once more, its characters signs (opsb opsc opsd opse) -/
def t2_B_g (S T : ev_St) : Prop := ∀ b : Nat, b < 3 → 0 ≤ S.1 (263 + 2 * b) 1 ∧ S.1 (263 + 2 * b) 1 ≤ 160 ∧ T.1 707 b = S.1 (263 + 2 * b) 1 ∧ ∀ g : Nat, (g : Int) < S.1 (263 + 2 * b) 1 → T.1 708 (200 * b + g) = S.1 (263 + 2 * b + 1) g ∧ 0 ≤ S.1 (263 + 2 * b + 1) g ∧ S.1 (263 + 2 * b + 1) g < 127 ∧ sp_sign (S.1 (263 + 2 * b + 1) g) = 1
theorem t2_B_i_g {S : ev_St} (h : t2_B_g S S) : sp_BR S := fun b hb => by
  obtain ⟨a1, a2, a3, a4⟩ := h b hb
  exact ⟨a1, a2, a3, fun g hg => ⟨(a4 g hg).1, (a4 g hg).2.1, (a4 g hg).2.2.1⟩⟩
theorem t2_pf_g {Q b : Nat} {a0 f r i a3 s3 : Int} {S T : ev_St} (hQ : 600 ≤ Q) (hW : lg_W S) (hB : t2_B_g S T) (hM : t2_M S T) (hb : b < 3) (h0 : 0 ≤ a0 ∧ a0 ≤ 2147483647) (h1 : a0 % 4 = b) (h2 : a0 / 4 % 256 = f) (hf : 0 ≤ f) (hr : 0 ≤ r) (hi : 0 ≤ i) (hfr : f + r ≤ S.1 (263 + 2 * b) 1) (hn : S.1 (263 + 2 * b) 1 - r + i ≤ 160) (h3 : 0 ≤ a3 ∧ a3 + i ≤ 1048576) (hs : 0 ≤ s3 ∧ s3 + i ≤ 840000) (he : ∀ g : Nat, (g : Int) < i → T.1 713 (s3 + g).toNat = lg_r 260 S (a3 + g).toNat ∧ 0 ≤ lg_r 260 S (a3 + g).toNat ∧ lg_r 260 S (a3 + g).toNat < 127 ∧ sp_sign (lg_r 260 S (a3 + g).toNat) = 1) : ∃ S' T', jm_9 Q a0 r i a3 S = some ((), S') ∧ jm_341 Q (b : Int) f (f + r) s3 i T = some ((), T') ∧ t2_B_g S' T' ∧ t2_M S' T' ∧ (∀ b' : Nat, b' < 3 → S'.1 (263 + 2 * b') 1 = if b' = b then S.1 (263 + 2 * b) 1 + (i - r) else S.1 (263 + 2 * b') 1) ∧ (∀ c g, c ≠ 258 → c ≠ 262 → ¬ (264 ≤ c ∧ c ≤ 268) → ¬ (c = 263 ∧ g = 1) → S'.1 c g = S.1 c g) ∧ S'.2 = S.2 ∧ (∀ c g, c ≠ 707 → c ≠ 708 → c ≠ 710 → T'.1 c g = T.1 c g) ∧ T'.2 = T.2 := by
  obtain ⟨b1, b2, b3, b4⟩ := hB b hb
  obtain ⟨m1, m2, m3, m4⟩ := hM
  have m5 : ∀ g : Nat, (g : Int) < S.1 254 4 → 0 ≤ S.1 258 g ∧ S.1 258 g ≤ 160 := fun g hg => by
    obtain ⟨_, _, _, w1, _, w2, w3⟩ := m4 g hg
    have := (hB (S.1 256 g).toNat (by omega)).2.1
    omega
  obtain ⟨S', p1, p2, p3, p4, p5, p6⟩ := pf_C (Q := Q) hQ hW hb h0 h1 h2 hf hr hi ⟨b1, b2⟩ hfr hn h3 ⟨m1, m2⟩ m5
  obtain ⟨T', q1, q2, q3, q4, q5, q6, q7⟩ := pf_R (Q := Q) (T := T) (s3 := s3) hQ hb hf hr hi b3 b2 hfr hn hs ⟨by omega, by omega⟩ (fun g hg => by
    rw [m3] at hg
    rw [(m4 g hg).2.2.1]
    exact m5 g hg)
  have len : ∀ b' : Nat, b' < 3 → S'.1 (263 + 2 * b') 1 = if b' = b then S.1 (263 + 2 * b) 1 + (i - r) else S.1 (263 + 2 * b') 1 := fun b' hb' => by
    by_cases e : b' = b
    · rw [if_pos e, e, p2]
    · rw [if_neg e, p5 _ _ (by omega) (by omega) (by omega) (by omega)]
  refine ⟨S', T', p1, q1, fun b' hb' => ?_, ?_, len, fun c g c1 c2 c3 c4 => p5 c g c1 c2 (by omega) (by omega), p6, q6, q7⟩
  · by_cases e : b' = b
    · subst e
      rw [p2]
      refine ⟨by omega, by omega, q2, fun g hg => ?_⟩
      rw [p3 g hg, q3 g hg]
      by_cases g1 : (g : Int) < f
      · rw [if_pos g1, if_pos g1]
        exact b4 g (by omega)
      · rw [if_neg g1, if_neg g1]
        by_cases g2 : (g : Int) < f + i
        · rw [if_pos g2, if_pos g2]
          have := he ((g : Int) - f).toNat (by omega)
          rw [show ((((g : Int) - f).toNat : Nat) : Int) = (g : Int) - f from by omega] at this
          exact this
        · rw [if_neg g2, if_neg g2]
          exact b4 _ (by omega)
    · obtain ⟨c1, c2, c3, c4⟩ := hB b' hb'
      rw [p5 (263 + 2 * b') 1 (by omega) (by omega) (by omega) (by omega)]
      refine ⟨c1, c2, by rw [(q4 b' hb' e).1, c3], fun g hg => ?_⟩
      rw [(q4 b' hb' e).2 g (by omega), p5 (263 + 2 * b' + 1) g (by omega) (by omega) (by omega) (by omega)]
      exact c4 g hg
  · have e4 : S'.1 254 4 = S.1 254 4 := p5 _ _ (by omega) (by omega) (by omega) (by omega)
    unfold t2_M
    rw [e4]
    refine ⟨m1, m2, by rw [q6 _ _ (by omega) (by omega) (by omega), m3], fun g hg => ?_⟩
    obtain ⟨w1, w2, w3, w4, w5, w6, w7⟩ := m4 g hg
    rw [p5 256 g (by omega) (by omega) (by omega) (by omega), p5 257 g (by omega) (by omega) (by omega) (by omega), q6 709 g (by omega) (by omega) (by omega), q6 711 g (by omega) (by omega) (by omega), p4 g hg, q5 g (by omega), w1, w2, w3, len _ (by omega)]
    refine ⟨rfl, rfl, rfl, w4, w5, ?_⟩
    by_cases e : S.1 256 g = (b : Int)
    · rw [if_pos e, if_pos (by omega)]
      rw [show (S.1 256 g).toNat = b from by omega] at w7
      exact sp_mv_le hf hr hi hfr ⟨w6, w7⟩
    · rw [if_neg e, if_neg (by omega)]
      exact ⟨w6, w7⟩
def lg_H_g (D : lg_D) (E : Nat) (S T : ev_St) : Prop := (∀ k, k < E → lg_r 259 S k = (dB D k : Int) + 4 * dF D k + 1024 * dR D k + 262144 * dI D k ∧ T.1 712 k = dF D k + 128 * dR D k + 16384 * dI D k + 2097152 * (dB D k : Int)) ∧ ∀ j : Nat, (j : Int) < dS D E → T.1 713 j = lg_r 260 S j ∧ 0 ≤ lg_r 260 S j ∧ lg_r 260 S j < 127 ∧ sp_sign (lg_r 260 S j) = 1
def lg_C_g (D : lg_D) (E c : Nat) (S T : ev_St) : Prop := c ≤ E ∧ (S.1 254 9 = (c : Int) ∧ S.1 254 10 = dS D c ∧ ∀ b, b < 3 → S.1 (263 + 2 * b) 1 = dL D c b) ∧ lg_W S ∧ t2_B_g S T ∧ t2_M S T ∧ lg_V D E ∧ lg_H_g D E S T
theorem t2_B_c_g {S T S2 T2 : ev_St} (h : t2_B_g S T) (h1 : ∀ b g, 263 ≤ b → b ≤ 268 → S2.1 b g = S.1 b g) (h2 : ∀ b g, b = 707 ∨ b = 708 → T2.1 b g = T.1 b g) : t2_B_g S2 T2 := fun b hb => by
  rw [h1 _ _ (by omega) (by omega), h2 _ _ (Or.inl rfl)]
  obtain ⟨a1, a2, a3, a4⟩ := h b hb
  refine ⟨a1, a2, a3, fun g hg => ?_⟩
  rw [h1 _ _ (by omega) (by omega), h2 _ _ (Or.inr rfl)]
  exact a4 g hg
theorem lg_H_c_g {D : lg_D} {E : Nat} {S T S2 T2 : ev_St} (h : lg_H_g D E S T) (hW : lg_W S) (h1 : S2.2.2.1 = S.2.2.1) (h2 : ∀ k g, 724 ≤ k → S2.1 k g = S.1 k g) (h3 : ∀ k g, k = 712 ∨ k = 713 → T2.1 k g = T.1 k g) : lg_H_g D E S2 T2 := by
  refine ⟨fun k hk => ?_, fun j hj => ?_⟩
  · rw [lg_r_c hW (Or.inl rfl) h1 h2, h3 712 k (Or.inl rfl)]
    exact h.1 k hk
  · rw [lg_r_c hW (Or.inr rfl) h1 h2, h3 713 j (Or.inr rfl)]
    exact h.2 j hj
theorem lg_redo_g {Q : Nat} {D : lg_D} {E c : Nat} {S T : ev_St} (hQ : 600 ≤ Q) (hC : lg_C_g D E c S T) (hc : c < E) (hE : (E : Int) ≤ 420000) (hS : dS D E ≤ 840000) : ∃ S' T', jm_7 Q S = some ((), S') ∧ jm_341 Q (dB D c : Int) (dF D c) (dF D c + dR D c) (dS D c + dR D c) (dI D c) T = some ((), T') ∧ lg_C_g D E (c + 1) S' T' ∧ lg_fC S S' ∧ lg_fR T T' := by
  obtain ⟨c1, ⟨c2, c3, c4⟩, c5, c6, c7, c8, c9⟩ := hC
  obtain ⟨v1, v2, v3, v4, v5, v6, v7, v8, v9⟩ := c8.2 c hc
  obtain ⟨p1, p2⟩ := c9.1 c hc
  have g1 := lg_mono2 c8 (k := c) (n := c + 1) (by omega) (by omega)
  have g2 := lg_mono2 c8 (k := c + 1) (n := E) (by omega) (by omega)
  generalize hP : lg_r 259 S c = P at p1
  obtain ⟨u1, u2, u3, u4, u5, u6, u7, u8⟩ := lg_unC (b := (dB D c : Int)) (by omega) v2 v3 v4 p1
  have hl := c4 (dB D c) v1
  obtain ⟨S1, T1, k1, k2, k3, k4, k5, k6, k7, k8, k9⟩ := t2_pf_g (Q := Q) (b := dB D c) (a0 := P) (f := dF D c) (r := dR D c) (i := dI D c) (a3 := dS D c + dR D c) (s3 := dS D c + dR D c) hQ c5 c6 c7 v1 ⟨u5, u6⟩ u1 u2 v2.1 v3.1 v4.1 (by omega) (by omega) (by omega) (by omega) (fun g hg => by
    have := c9.2 (dS D c + dR D c + g).toNat (by omega)
    exact this)
  have f9 : S1.1 254 9 = (c : Int) := by rw [k6 254 9 (by omega) (by omega) (by omega) (by omega), c2]
  have f10 : S1.1 254 10 = dS D c := by rw [k6 254 10 (by omega) (by omega) (by omega) (by omega), c3]
  have hR : ∀ k g, k ≠ 254 → (ev_pI (ev_pI S1 254 9 ((c : Int) + 1)) 254 10 (dS D c + (dR D c + dI D c))).1 k g = S1.1 k g := fun k g hk => by rw [rd_nk hk, rd_nk hk]
  refine ⟨ev_pI (ev_pI S1 254 9 ((c : Int) + 1)) 254 10 (dS D c + (dR D c + dI D c)), T1, ?_, k2, ⟨by omega, ⟨by rw [rd_nf (by omega), rd_eq]; omega, by rw [rd_eq]; omega, fun b hb => ?_⟩, ?_, ?_, ?_, c8, ?_⟩, ⟨fun a g a1 a2 a3 a4 a5 => ?_, k7⟩, ⟨k8, k9⟩⟩
  · unfold jm_7
    rw [sp_b, c2, sp_14 (by omega), sp_bd, Int.toNat_natCast, hP, sp_div (by omega) (by omega), sp_div (by omega) (by omega), sp_if (by decide), sp_b, sp_if (by decide), sp_b, sp_rem (by omega) (by omega), sp_if (by decide), sp_b, u3, u4, sp_b, c3, sp_ck (by omega), k1, sp_bd, sp_b, f9, sp_ck (by omega), sp_b, sp_b, rd_nf (by omega), f10, sp_ck (by omega), sp_ck (by omega), sp_b]
  · rw [hR _ _ (by omega), k5 b hb, v9 b hb]
    by_cases e : b = dB D c
    · rw [if_pos e, if_pos e, hl, e]
    · rw [if_neg e, if_neg e, c4 b hb]
  · exact lg_W_c c5 (by show S1.2.2.1 = _; rw [k7]) (by show ev_sN S1 = _; unfold ev_sN; rw [k7])
  · exact t2_B_c_g k3 (fun b g _ _ => hR b g (by omega)) (fun _ _ _ => rfl)
  · exact t2_M_c k4 (by rw [rd_nf (by omega), rd_nf (by omega)]) (fun b g _ _ => hR b g (by omega)) (fun b _ => hR _ _ (by omega)) rfl (fun _ _ _ _ => rfl)
  · exact lg_H_c_g c9 c5 (by show S1.2.2.1 = _; rw [k7]) (fun k g hk => by rw [hR k g (by omega), k6 k g (by omega) (by omega) (by omega) (by omega)]) (fun k g hk => k8 k g (by omega) (by omega) (by omega))
  · by_cases e : a = 254
    · rw [e, rd_nf (by omega), rd_nf (by omega), k6 254 g (by omega) (by omega) (by omega) (by omega)]
    · rw [hR a g e, k6 a g a1 a2 a3 a4]
theorem lg_undo_g {Q : Nat} {D : lg_D} {E c : Nat} {S T : ev_St} (hQ : 600 ≤ Q) (hC : lg_C_g D E (c + 1) S T) (hE : (E : Int) ≤ 420000) (hS : dS D E ≤ 840000) : ∃ S' T', jm_8 Q S = some ((), S') ∧ jm_341 Q (dB D c : Int) (dF D c) (dF D c + dI D c) (dS D c) (dR D c) T = some ((), T') ∧ lg_C_g D E c S' T' ∧ lg_fC S S' ∧ lg_fR T T' := by
  obtain ⟨c1, ⟨c2, c3, c4⟩, c5, c6, c7, c8, c9⟩ := hC
  obtain ⟨v1, v2, v3, v4, v5, v6, v7, v8, v9⟩ := c8.2 c (by omega)
  obtain ⟨p1, p2⟩ := c9.1 c (by omega)
  have g1 := lg_mono2 c8 (k := c) (n := c + 1) (by omega) (by omega)
  have g2 := lg_mono2 c8 (k := c + 1) (n := E) (by omega) (by omega)
  generalize hP : lg_r 259 S c = P at p1
  obtain ⟨u1, u2, u3, u4, u5, u6, u7, u8⟩ := lg_unC (b := (dB D c : Int)) (by omega) v2 v3 v4 p1
  have hl := c4 (dB D c) v1
  rw [v9 _ v1, if_pos rfl] at hl
  have hR : ∀ k g, k ≠ 254 → (ev_pI (ev_pI S 254 9 (c : Int)) 254 10 (dS D c)).1 k g = S.1 k g := fun k g hk => by rw [rd_nk hk, rd_nk hk]
  have hW0 : lg_W (ev_pI (ev_pI S 254 9 (c : Int)) 254 10 (dS D c)) := lg_W_c c5 rfl rfl
  have hr : ∀ a i, a = 259 ∨ a = 260 → lg_r a (ev_pI (ev_pI S 254 9 (c : Int)) 254 10 (dS D c)) i = lg_r a S i := fun a i ha => lg_r_c c5 ha rfl (fun k g hk => hR k g (by omega))
  have hB0 : t2_B_g (ev_pI (ev_pI S 254 9 (c : Int)) 254 10 (dS D c)) T := t2_B_c_g c6 (fun b g _ _ => hR b g (by omega)) (fun _ _ _ => rfl)
  have hM0 : t2_M (ev_pI (ev_pI S 254 9 (c : Int)) 254 10 (dS D c)) T := t2_M_c c7 (by rw [rd_nf (by omega), rd_nf (by omega)]) (fun b g _ _ => hR b g (by omega)) (fun b _ => hR _ _ (by omega)) rfl (fun _ _ _ _ => rfl)
  have hl0 : ∀ b, (ev_pI (ev_pI S 254 9 (c : Int)) 254 10 (dS D c)).1 (263 + 2 * b) 1 = S.1 (263 + 2 * b) 1 := fun b => hR _ _ (by omega)
  obtain ⟨S1, T1, k1, k2, k3, k4, k5, k6, k7, k8, k9⟩ := t2_pf_g (Q := Q) (b := dB D c) (a0 := P) (f := dF D c) (r := dI D c) (i := dR D c) (a3 := dS D c) (s3 := dS D c) hQ hW0 hB0 hM0 v1 ⟨u5, u6⟩ u1 u2 v2.1 v4.1 v3.1 (by rw [hl0]; omega) (by rw [hl0]; omega) (by omega) (by omega) (fun g hg => by
    rw [hr _ _ (Or.inr rfl)]
    exact c9.2 (dS D c + g).toNat (by omega))
  refine ⟨S1, T1, ?_, k2, ⟨by omega, ⟨?_, ?_, fun b hb => ?_⟩, ?_, k3, k4, c8, ?_⟩, ⟨fun a g a1 a2 a3 a4 a5 => ?_, k7⟩, ⟨k8, k9⟩⟩
  · unfold jm_8
    rw [sp_b, c2, show ((c + 1 : Nat) : Int) - 1 = (c : Int) from by omega, sp_ck (by omega), sp_b, sp_b, rd_eq, sp_14 (by omega), sp_bd, Int.toNat_natCast, lg_r_c (T := ev_pI S 254 9 (c : Int)) c5 (Or.inl rfl) rfl (fun k g hk => rd_nk (by omega)), hP, sp_div (by omega) (by omega), sp_div (by omega) (by omega), sp_if (by decide), sp_b, sp_if (by decide), sp_b, sp_rem (by omega) (by omega), sp_if (by decide), sp_b, u3, u4, sp_b, rd_nf (by omega), c3, sp_ck (by omega), sp_ck (by omega), show dS D (c + 1) - (dR D c + dI D c) = dS D c from by omega, sp_b, sp_b, rd_eq, k1, sp_bd]
  · rw [k6 254 9 (by omega) (by omega) (by omega) (by omega), rd_nf (by omega), rd_eq]
  · rw [k6 254 10 (by omega) (by omega) (by omega) (by omega), rd_eq]
  · rw [k5 b hb]
    by_cases e : b = dB D c
    · rw [if_pos e, hl0, hl, e]
      omega
    · rw [if_neg e, hl0, c4 b hb, v9 b hb, if_neg e]
  · exact lg_W_c hW0 (by rw [k7]) (by unfold ev_sN; rw [k7])
  · refine lg_H_c_g c9 c5 (by rw [k7]; rfl) (fun k g hk => by rw [k6 k g (by omega) (by omega) (by omega) (by omega), hR k g (by omega)]) (fun k g hk => k8 k g (by omega) (by omega) (by omega))
  · rw [k6 a g a1 a2 a3 a4]
    by_cases e : a = 254
    · rw [e, rd_nf (by omega), rd_nf (by omega)]
    · rw [hR a g e]
theorem lg_C_c_g {D : lg_D} {E c : Nat} {S T S2 T2 : ev_St} (h : lg_C_g D E c S T) (hS : ∀ k g, (k = 254 ∧ (g = 4 ∨ g = 9 ∨ g = 10)) ∨ (256 ≤ k ∧ k ≤ 258) ∨ (263 ≤ k ∧ k ≤ 268) ∨ 724 ≤ k → S2.1 k g = S.1 k g) (hR : S2.2.2.1 = S.2.2.1) (hN : ev_sN S2 = ev_sN S) (hT : ∀ k g, 707 ≤ k ∧ k ≤ 713 ∨ (k = 621 ∧ g = 121) → T2.1 k g = T.1 k g) : lg_C_g D E c S2 T2 := by
  obtain ⟨c1, ⟨c2, c3, c4⟩, c5, c6, c7, c8, c9⟩ := h
  refine ⟨c1, ⟨by rw [hS 254 9 (by omega), c2], by rw [hS 254 10 (by omega), c3], fun b hb => by rw [hS _ _ (by omega), c4 b hb]⟩, lg_W_c c5 hR hN, t2_B_c_g c6 (fun b g h1 h2 => hS b g (by omega)) (fun b g hb => hT b g (by omega)), t2_M_c c7 (hS _ _ (by omega)) (fun b g h1 h2 => hS b g (by omega)) (fun b hb => hS _ _ (by omega)) (hT _ _ (by omega)) (fun b g h1 h2 => hT b g (by omega)), c8, lg_H_c_g c9 c5 hR (fun k g hk => hS k g (by omega)) (fun k g hk => hT k g (by omega))⟩
theorem lg_undos_g {Q : Nat} {D : lg_D} {E : Nat} (hQ : 600 ≤ Q) (hE : (E : Int) ≤ 420000) (hS : dS D E ≤ 840000) {d u e0 N : Int} (hd : 0 ≤ d ∧ d < 1024) (hu : 0 ≤ u ∧ u < 1024) (hN : 0 ≤ N ∧ N ≤ 1000000) : ∀ (m c : Nat) (S T : ev_St) (x : Int) (q q' : Nat), m < q → m < q' → lg_C_g D E (c + m) S T → x + m = N → 0 ≤ x → S.1 254 12 = d → S.1 261 d.toNat = N → T.1 621 130 = u → T.1 714 u.toNat = e0 → e0 - (e0 - sp_bs (T.1 714) u) = (c : Int) → 0 ≤ e0 ∧ e0 ≤ 1000000 → ∃ S' T', jl_5_31 Q q x S = some (N, S') ∧ jl_357_64 Q q' (dS D (c + m)) ((c : Int) + m - 1) T = some (e0 - sp_bs (T.1 714) u, T') ∧ lg_C_g D E c S' T' ∧ lg_fC S S' ∧ lg_fR T T'
  | m, c, S, T, x, 0, q', h, _, _, _, _, _, _, _, _, _, _ => by omega
  | m, c, S, T, x, q + 1, 0, _, h, _, _, _, _, _, _, _, _, _ => by omega
  | 0, c, S, T, x, q + 1, q' + 1, _, _, hC, hx, hx0, h1, h2, h3, h4, h5, h6 => by
    obtain ⟨_, _, _, _, _, l4, _, l6⟩ := sp_aln262
    have hcE := hC.1
    refine ⟨S, T, ?_, ?_, hC, lg_fC_r S, lg_fR_r T⟩
    · show jb_5_31 Q (jl_5_31 Q q) x S = _
      unfold jb_5_31
      rw [sp_b, h1, sp_if (by rw [l6]; omega), sp_b, h2, if_pos (by omega), sp_b, sp_if (by rw [l6]; omega), sp_b, h2]
    · show jb_357_64 Q (jl_357_64 Q q') _ _ T = _
      have e := sp_356 (Q := Q) (u := u) (T := T) (by omega) (by omega) (by omega)
      unfold jb_357_64
      rw [sp_b, h3, sp_if (by rw [l4]; omega), sp_b, h4, sp_b, e, sp_bd, h4, sp_ck (by omega), if_pos (by omega), sp_b, h3, e, sp_bd, h4]
  | m + 1, c, S, T, x, q + 1, q' + 1, hq, hq', hC, hx, hx0, h1, h2, h3, h4, h5, h6 => by
    obtain ⟨_, _, _, l2, _, l4, _, l6⟩ := sp_aln262
    have hC' : lg_C_g D E (c + m + 1) S T := hC
    have hcE := hC.1
    obtain ⟨S1, T1, k1, k2, k3, k4, k5⟩ := lg_undo_g (Q := Q) hQ hC' hE hS
    have f1 : S1.1 254 12 = d := by rw [k4.1 254 12 (by omega) (by omega) (by omega) (by omega) (by omega), h1]
    have f2 : ∀ g, S1.1 261 g = S.1 261 g := fun g => k4.1 261 g (by omega) (by omega) (by omega) (by omega) (by omega)
    have f3 : T1.1 621 130 = u := by rw [k5.1 621 130 (by omega) (by omega) (by omega), h3]
    have f4 : T1.1 714 = T.1 714 := funext fun g => k5.1 714 g (by omega) (by omega) (by omega)
    obtain ⟨S', T', r1, r2, r3, r4, r5⟩ := lg_undos_g hQ hE hS hd hu hN m c S1 T1 (x + 1) q q' (by omega) (by omega) k3 (by omega) (by omega) f1 (by rw [f2, h2]) f3 (by rw [f4, h4]) (by rw [f4]; exact h5) h6
    refine ⟨S', T', ?_, ?_, r3, lg_fC_t k4 r4, lg_fR_t k5 r5⟩
    · show jb_5_31 Q (jl_5_31 Q q) x S = _
      unfold jb_5_31
      rw [sp_b, h1, sp_if (by rw [l6]; omega), sp_b, h2, if_neg (by omega), k1, sp_bd, sp_ck (by omega)]
      exact r1
    · show jb_357_64 Q (jl_357_64 Q q') _ _ T = _
      have e := sp_356 (Q := Q) (u := u) (T := T) (by omega) (by omega) (by omega)
      obtain ⟨c1, ⟨c2, c3, c4⟩, c5, c6, c7, c8, c9⟩ := hC'
      obtain ⟨v1, v2, v3, v4, v5, v6, v7, v8, v9⟩ := c8.2 (c + m) (by omega)
      have p2 := (c9.1 (c + m) (by omega)).2
      have g1 := lg_mono2 c8 (k := c + m) (n := c + m + 1) (by omega) (by omega)
      have g2 := lg_mono2 c8 (k := c + m + 1) (n := E) (by omega) (by omega)
      generalize hP : T.1 712 (c + m) = P at p2
      obtain ⟨u1, u2, u3, u4, u5, u6, u7, u8⟩ := lg_unR (b := (dB D (c + m) : Int)) (by omega) v2 v3 v4 p2
      have e1 : ((c : Int) + ((m + 1 : Nat) : Int) - 1) = ((c + m : Nat) : Int) := by omega
      rw [f4, show (c : Int) + m - 1 = ((c + m : Nat) : Int) + (-1) from by omega] at r2
      rw [e1, show c + (m + 1) = c + m + 1 from rfl]
      unfold jb_357_64
      rw [sp_b, h3, sp_if (by rw [l4]; omega), sp_b, h4, sp_b, e, sp_bd, h4, sp_ck (by omega), if_neg (by omega), sp_if (by rw [l2]; omega), Int.toNat_natCast, hP, sp_b, sp_if (by decide), sp_rem (by omega) (by omega), u1, sp_b, sp_if (by rw [l2]; omega), sp_b, sp_if (by decide), sp_div (by omega) (by omega), sp_b, sp_if (by decide), sp_rem (by omega) (by omega), u2, sp_b, sp_if (by rw [l2]; omega), sp_b, sp_if (by decide), sp_div (by omega) (by omega), sp_b, sp_if (by decide), sp_rem (by omega) (by omega), u3, sp_b, sp_ck (by omega), sp_ck (by omega), sp_if (by rw [l2]; omega), sp_b, sp_if (by decide), sp_div (by omega) (by omega), u4, sp_b, sp_ck (by omega), show dS D (c + m + 1) - (dR D (c + m) + dI D (c + m)) = dS D (c + m) from by omega, k2, sp_bd, sp_ck (by omega)]
      exact r2
theorem lg_redos_g {Q : Nat} {D : lg_D} {E : Nat} (hQ : 600 ≤ Q) (hE : (E : Int) ≤ 420000) (hS : dS D E ≤ 840000) {d u N : Int} (hd : 0 ≤ d ∧ d < 1024) (hu : 0 ≤ u ∧ u < 1024) (hN : 0 ≤ N ∧ N ≤ 1000000) : ∀ (m c : Nat) (S T : ev_St) (x : Int) (q q' : Nat), m < q → m < q' → lg_C_g D E c S T → c + m ≤ E → x + m = N → 0 ≤ x → S.1 254 12 = d → S.1 261 d.toNat = N → T.1 621 130 = u → T.1 714 u.toNat = ((c + m : Nat) : Int) → 0 ≤ sp_bs (T.1 714) u ∧ sp_bs (T.1 714) u ≤ 1000000 → ∃ S' T', jl_6_21 Q q x S = some (N, ev_pI S' 254 12 (d + 1)) ∧ jl_358_82 Q q' (dS D c) (c : Int) T = some (T.1 714 u.toNat - sp_bs (T.1 714) u, ev_pI T' 621 130 (u + 1)) ∧ lg_C_g D E (c + m) S' T' ∧ lg_fC S S' ∧ lg_fR T T'
  | m, c, S, T, x, 0, q', h, _, _, _, _, _, _, _, _, _, _ => by omega
  | m, c, S, T, x, q + 1, 0, _, h, _, _, _, _, _, _, _, _, _ => by omega
  | 0, c, S, T, x, q + 1, q' + 1, _, _, hC, hc, hx, hx0, h1, h2, h3, h4, h6 => by
    obtain ⟨_, _, _, _, _, l4, _, l6⟩ := sp_aln262
    have hcE := hC.1
    refine ⟨S, T, ?_, ?_, hC, lg_fC_r S, lg_fR_r T⟩
    · show jb_6_21 Q (jl_6_21 Q q) x S = _
      unfold jb_6_21
      rw [sp_b, h1, sp_if (by rw [l6]; omega), sp_b, h2, if_pos (by omega), sp_b, sp_ck (by omega), sp_b, sp_b, rd_eq, sp_ck (by omega), sp_if (by rw [l6]; omega), sp_b, show d + 1 - 1 = d from by omega, rd_nk (by omega), h2]
    · show jb_358_82 Q (jl_358_82 Q q') _ _ T = _
      have e := sp_356 (Q := Q) (u := u) (T := ev_pI T 621 130 (u + 1)) (by omega) (by rw [rd_nk (by omega)]; omega) (by rw [show (ev_pI T 621 130 (u + 1)).1 714 = T.1 714 from funext fun g => rd_nk (by omega)]; exact h6)
      rw [rd_nk (by omega), show (ev_pI T 621 130 (u + 1)).1 714 = T.1 714 from funext fun g => rd_nk (by omega)] at e
      unfold jb_358_82
      rw [sp_b, h3, sp_if (by rw [l4]; omega), sp_b, if_pos (by omega), sp_b, sp_ck (by omega), sp_b, sp_b, rd_eq, sp_ck (by omega), show u + 1 - 1 = u from by omega, e, sp_bd]
  | m + 1, c, S, T, x, q + 1, q' + 1, hq, hq', hC, hc, hx, hx0, h1, h2, h3, h4, h6 => by
    obtain ⟨_, _, _, l2, _, l4, _, l6⟩ := sp_aln262
    obtain ⟨S1, T1, k1, k2, k3, k4, k5⟩ := lg_redo_g (Q := Q) hQ hC (by omega) hE hS
    have f1 : S1.1 254 12 = d := by rw [k4.1 254 12 (by omega) (by omega) (by omega) (by omega) (by omega), h1]
    have f2 : ∀ g, S1.1 261 g = S.1 261 g := fun g => k4.1 261 g (by omega) (by omega) (by omega) (by omega) (by omega)
    have f3 : T1.1 621 130 = u := by rw [k5.1 621 130 (by omega) (by omega) (by omega), h3]
    have f4 : T1.1 714 = T.1 714 := funext fun g => k5.1 714 g (by omega) (by omega) (by omega)
    obtain ⟨S', T', r1, r2, r3, r4, r5⟩ := lg_redos_g hQ hE hS hd hu hN m (c + 1) S1 T1 (x + 1) q q' (by omega) (by omega) k3 (by omega) (by omega) (by omega) f1 (by rw [f2, h2]) f3 (by rw [f4, h4]; omega) (by rw [f4]; exact h6)
    refine ⟨S', T', ?_, ?_, by rw [show c + (m + 1) = c + 1 + m from by omega]; exact r3, lg_fC_t k4 r4, lg_fR_t k5 r5⟩
    · show jb_6_21 Q (jl_6_21 Q q) x S = _
      unfold jb_6_21
      rw [sp_b, h1, sp_if (by rw [l6]; omega), sp_b, h2, if_neg (by omega), k1, sp_bd, sp_ck (by omega)]
      exact r1
    · show jb_358_82 Q (jl_358_82 Q q') _ _ T = _
      obtain ⟨c1, ⟨c2, c3, c4⟩, c5, c6, c7, c8, c9⟩ := hC
      obtain ⟨v1, v2, v3, v4, v5, v6, v7, v8, v9⟩ := c8.2 c (by omega)
      have p2 := (c9.1 c (by omega)).2
      have g1 := lg_mono2 c8 (k := c) (n := c + 1) (by omega) (by omega)
      have g2 := lg_mono2 c8 (k := c + 1) (n := E) (by omega) (by omega)
      generalize hP : T.1 712 c = P at p2
      obtain ⟨u1, u2, u3, u4, u5, u6, u7, u8⟩ := lg_unR (b := (dB D c : Int)) (by omega) v2 v3 v4 p2
      rw [f4, v8, show ((c + 1 : Nat) : Int) = (c : Int) + 1 from by omega] at r2
      unfold jb_358_82
      rw [sp_b, h3, sp_if (by rw [l4]; omega), sp_b, if_neg (by omega), sp_if (by rw [l2]; omega), Int.toNat_natCast, hP, sp_b, sp_if (by decide), sp_rem (by omega) (by omega), u1, sp_b, sp_if (by rw [l2]; omega), sp_b, sp_if (by decide), sp_div (by omega) (by omega), sp_b, sp_if (by decide), sp_rem (by omega) (by omega), u2, sp_b, sp_if (by rw [l2]; omega), sp_b, sp_if (by decide), sp_div (by omega) (by omega), sp_b, sp_if (by decide), sp_rem (by omega) (by omega), u3, sp_b, sp_if (by rw [l2]; omega), sp_b, sp_if (by decide), sp_div (by omega) (by omega), u4, sp_b, sp_ck (by omega), sp_ck (by omega), k2, sp_bd, sp_ck (by omega), sp_ck (by omega), sp_ck (by omega), show dS D c + (dR D c + dI D c) = dS D c + dR D c + dI D c from by omega]
      exact r2
def LG_g (n : Int) (D : lg_D) (S : ev_St) : Prop := sp_LR n S ∧ lg_C_g D (lg_E S).toNat (S.1 254 9).toNat S S ∧ (0 ≤ lg_E S ∧ lg_E S ≤ 810 * n ∧ dS D (lg_E S).toNat ≤ 1600 * n) ∧ (S.1 621 125 = lg_E S ∧ S.1 621 128 = dS D (lg_E S).toNat) ∧ ∀ g : Nat, (g : Int) < S.1 254 13 → 0 ≤ S.1 261 g ∧ S.1 715 g = dS D (S.1 714 g).toNat
theorem lg_E_bs_g {n : Int} {D : lg_D} {S : ev_St} (hG : LG_g n D S) (ho : S.1 254 11 = 0) : lg_E S = sp_bs (S.1 714) (S.1 254 13) := by
  obtain ⟨⟨_, ⟨g5, g6, g7, g8, g9⟩, _, _, _, g13, _⟩, h2, _, _, _⟩ := hG
  unfold lg_E
  by_cases e : S.1 254 12 = S.1 254 13
  · rw [if_pos e, g13, ho, e]
    omega
  · rw [if_neg e]
    unfold sp_bs
    rw [if_neg (by omega)]
theorem LG_no_g {n : Int} {D : lg_D} {S : ev_St} {c : Int} (hG : LG_g n D S) : LG_g n D (ev_pI (ev_tick S) 621 0 c) := by
  obtain ⟨h1, h2, h3, h4, h5⟩ := hG
  have e : ∀ k g, ¬ (k = 621 ∧ g = 0) → (ev_pI (ev_tick S) 621 0 c).1 k g = S.1 k g := fun k g h => if_neg h
  have eE : lg_E (ev_pI (ev_tick S) 621 0 c) = lg_E S := rfl
  unfold LG_g
  rw [eE]
  refine ⟨h1, ?_, h3, h4, h5⟩
  rw [e 254 9 (by omega)]
  exact lg_C_c_g h2 (fun k g hk => e k g (by omega)) rfl rfl (fun k g hk => e k g (by omega))
section OPSE
variable {Q L j : Nat} {xs : Nat → Int32} {S : ev_St} {n : Int} {D : lg_D}
theorem op_25_g (hQ : 1000000 ≤ Q) (hn : n ≤ 512) (hG : LG_g n D S) (hL : L ≤ 3072) (hj : j + 6 ≤ L) : ∃ S2, (∀ K, ja_1820 Q L xs K S = K S2) ∧ LG_g n D S2 ∧ sp_F sp_Wu S S2 := by
  have hG0 := hG
  obtain ⟨hR, hC, hE, h125, h261⟩ := hG
  have hR0 := hR
  obtain ⟨⟨g1, g2, g3, g4⟩, ⟨g5, g6, g7, g8, g9⟩, g10, g11, g12, g13, g14⟩ := hR
  by_cases hno : S.1 254 14 ≠ 0 ∨ S.1 254 12 = 0
  · refine ⟨_, fun K => la_25 (c := 1) (b := 0) hL hj (lw_25_x0 (sp_191_no hno)) (sp_357_no (S := ev_tick S) (by rw [sp_tick1]; omega)) rd_eq (fun q => by cases q), LG_no_g hG0, ?_⟩
    exact ⟨fun b g w => (sp_F_no (c := 1)).1 b g (fun q => w (by unfold sp_Wu; unfold sp_Wc at q; omega)), (sp_F_no (c := 1)).2⟩
  · have ho : S.1 254 14 = 0 := by omega
    have hd : 0 < S.1 254 12 := by omega
    have hl := g10 ho
    have hEb := lg_E_bs_g hG0 hl
    obtain ⟨d, ed⟩ : ∃ d : Nat, S.1 254 12 = (d : Int) + 1 := ⟨(S.1 254 12 - 1).toNat, by omega⟩
    have hb := bs_le hR0 (fun g hg => (h261 g hg).1) (a := d) (b := (d : Int) + 1) (by omega) (by omega) (by omega)
    have hb2 := bs_le hR0 (fun g hg => (h261 g hg).1) (a := (d : Int) + 1) (b := S.1 254 13) (by omega) (by omega) (by omega)
    rw [bs_s] at hb hb2
    have e14 := g14 d (by omega)
    have e15 := (h261 d (by omega)).2
    have e9 : S.1 254 9 = S.1 714 d := by rw [g13, hl, ed, bs_s]; omega
    have hN := (h261 d (by omega)).1
    obtain ⟨c, ec⟩ : ∃ c : Nat, sp_bs (S.1 714) d = (c : Int) := ⟨(sp_bs (S.1 714) d).toNat, by omega⟩
    obtain ⟨m, em⟩ : ∃ m : Nat, S.1 261 d = (m : Int) := ⟨(S.1 261 d).toNat, by omega⟩
    have e9n : (S.1 254 9).toNat = c + m := by omega
    rw [e9n] at hC
    have hmE := hC.1
    have key : ∀ T : ev_St, (∀ k g, 707 ≤ k ∧ k ≤ 715 ∨ (k = 621 ∧ g = 121) → T.1 k g = S.1 k g) → T.1 621 130 = d → ∃ S' T', jm_191 Q S = some (.inl (m : Int), S') ∧ jl_357_64 Q Q (dS D (c + m)) ((c : Int) + m - 1) T = some ((m : Int), T') ∧ lg_C_g D (lg_E S).toNat c S' T' ∧ lg_fC (ev_pI S 254 12 d) S' ∧ lg_fR T T' := fun T hT hu => by
      have hC1 : lg_C_g D (lg_E S).toNat (c + m) (ev_pI S 254 12 d) T := lg_C_c_g hC (fun k g hk => if_neg (by omega)) rfl rfl (fun k g hk => hT k g (by omega))
      have f4 : T.1 714 = S.1 714 := funext fun g => hT 714 g (by omega)
      obtain ⟨S', T', r1, r2, r3, r4, r5⟩ := lg_undos_g (Q := Q) (by omega) (by omega) (by omega) (d := d) (u := d) (e0 := S.1 714 d) (N := m) (by omega) (by omega) (by omega) m c (ev_pI S 254 12 d) T 0 Q Q (by omega) (by omega) hC1 (by omega) (by omega) rd_eq (by rw [rd_nk (by omega)]; exact em) hu (by rw [f4]; rfl) (by rw [f4]; omega) (by omega)
      refine ⟨S', T', ?_, ?_, r3, r4, r5⟩
      · unfold jm_191
        rw [sp_b, if_neg (by omega), sp_b, if_pos (by omega)]
        unfold jm_5
        rw [sp_b, if_neg (by omega), sp_b, if_pos (by omega), sp_b, sp_ck (by omega), show S.1 254 12 - 1 = (d : Int) from by omega, sp_b, r1, sp_bd]
      · rw [r2, f4, show S.1 714 d - sp_bs (S.1 714) d = (m : Int) from by omega]
    obtain ⟨S', _, p1, _, _, p4, _⟩ := key (ev_pI S 621 130 d) (fun k g hk => if_neg (by omega)) rd_eq
    have fS : ∀ k g, 707 ≤ k ∧ k ≤ 715 ∨ k = 621 → S'.1 k g = S.1 k g := fun k g hk => by
      rw [p4.1 k g (by omega) (by omega) (by omega) (by omega) (by omega), rd_nk (by omega)]
    have fT : ∀ k g, ¬ (k = 621 ∧ (g = 0 ∨ g = 130)) → (ev_pI (ev_pI (ev_pL S' 723 0 (ev_i2l m)) 621 0 0) 621 130 d).1 k g = S'.1 k g := fun k g hk => by
      rw [sp_pI1, if_neg (by omega), sp_pI1, if_neg (by omega)]
      rfl
    obtain ⟨S'', T', q1, q2, q3, q4, q5⟩ := key (ev_pI (ev_pI (ev_pL S' 723 0 (ev_i2l m)) 621 0 0) 621 130 d) (fun k g hk => by rw [fT k g (by omega), fS k g (by omega)]) rd_eq
    have eS : S'' = S' := by
      rw [p1] at q1
      injection q1 with q
      injection q with _ q
      exact q.symm
    subst eS
    have gT : ∀ k g, k ≠ 707 → k ≠ 708 → k ≠ 710 → ¬ (k = 621 ∧ (g = 0 ∨ g = 130)) → T'.1 k g = S''.1 k g := fun k g h1 h2 h3 h4 => by
      rw [q5.1 k g h1 h2 h3, fT k g h4]
    have gS : ∀ k g, ¬ sp_Wu k g → T'.1 k g = S.1 k g := fun k g hw => by
      unfold sp_Wu at hw
      rw [gT k g (by omega) (by omega) (by omega) (by omega), q4.1 k g (by omega) (by omega) (by omega) (by omega) (by omega), sp_pI1, if_neg (by omega)]
    have r2T : T'.2.2 = S.2.2 := by
      have a1 := q5.2
      have a2 := q4.2
      rw [a1]
      show S''.2.2 = S.2.2
      rw [a2]
      rfl
    have t12 : T'.1 254 12 = d := by rw [gT 254 12 (by omega) (by omega) (by omega) (by omega), q4.1 254 12 (by omega) (by omega) (by omega) (by omega) (by omega), rd_eq]
    have t13 : T'.1 254 13 = S.1 254 13 := gS 254 13 (by unfold sp_Wu; omega)
    have t714 : T'.1 714 = S.1 714 := funext fun g => gS 714 g (by unfold sp_Wu; omega)
    have t9 : T'.1 254 9 = c := by rw [gT 254 9 (by omega) (by omega) (by omega) (by omega), q3.2.1.1]
    have t130 : T'.1 621 130 = d := by rw [q5.1 621 130 (by omega) (by omega) (by omega), rd_eq]
    have tE : lg_E T' = lg_E S := by
      rw [hEb]
      unfold lg_E sp_bs
      rw [t12, t13, t714, if_neg (by omega), if_neg (by omega)]
    refine ⟨T', fun K => la_25 (c := 0) (b := (m : Int)) hL hj (lw_25_ok p1) ?_ ?_ (fun _ => ?_), ⟨?_, ?_, ?_, ?_, ?_⟩, ?_⟩
    · obtain ⟨_, _, _, _, _, l4, l5, _⟩ := sp_aln262
      have a130 : (ev_pL S'' 723 0 (ev_i2l m)).1 621 130 = (d : Int) + 1 := by
        show S''.1 621 130 = _
        rw [fS 621 130 (by omega), g1, ed]
      have a132 : (ev_pL S'' 723 0 (ev_i2l m)).1 621 132 = 0 := by
        show S''.1 621 132 = _
        rw [fS 621 132 (by omega), g3, ho]
      unfold jm_357
      simp only [sp_b, sp_jn]
      rw [if_neg (by omega), if_pos (by omega), if_pos (by rw [rd_eq]; omega), rd_nf (by omega), a130, sp_ck (by omega), show (d : Int) + 1 - 1 = d from by omega, rd_eq, sp_if (by rw [l5]; omega), sp_if (by rw [l4]; omega), Int.toNat_natCast]
      rw [fT 715 d (by omega), fT 714 d (by omega), fS 715 d (by omega), fS 714 d (by omega), e15, sp_ck (by omega), show (S.1 714 d).toNat = c + m from by omega, show S.1 714 d - 1 = (c : Int) + m - 1 from by omega]
      exact q2
    · rw [q5.1 621 0 (by omega) (by omega) (by omega), rd_nf (by omega), rd_eq]
    · have := q5.2
      rw [this]
      exact rd_L
    · unfold sp_LR
      rw [t12, t13, t714, t9, t130, gS 621 131 (by unfold sp_Wu; omega), gS 621 132 (by unfold sp_Wu; omega), gS 254 14 (by unfold sp_Wu; omega), gS 621 126 (by unfold sp_Wu; omega), gS 254 11 (by unfold sp_Wu; omega), hl]
      refine ⟨⟨rfl, g2, g3, by omega⟩, ⟨by omega, by omega, g7, by omega, g9⟩, fun _ => rfl, fun z => by omega, fun z => by omega, by omega, fun g hg => ?_⟩
      rw [gS 261 g (by unfold sp_Wu; omega)]
      exact g14 g hg
    · rw [tE, t9, Int.toNat_natCast]
      refine lg_C_c_g q3 (fun k g hk => gT k g (by omega) (by omega) (by omega) (by omega)) (by rw [q5.2]; rfl) (by unfold ev_sN; rw [q5.2]; rfl) (fun _ _ _ => rfl)
    · rw [tE]
      exact hE
    · rw [tE, gS 621 125 (by unfold sp_Wu; omega), gS 621 128 (by unfold sp_Wu; omega)]
      exact h125
    · intro g hg
      rw [t13] at hg
      rw [t714, gS 261 g (by unfold sp_Wu; omega), gS 715 g (by unfold sp_Wu; omega)]
      exact h261 g hg
    · refine ⟨gS, fun b g hb => ?_, by rw [r2T], by rw [r2T], by rw [r2T], by rw [r2T]; omega, by rw [r2T]; omega⟩
      rw [q5.2]
      show (ev_pL S'' 723 0 (ev_i2l m)).2.1 b g = _
      rw [sp_pL2, if_neg (fun z => hb z.1), q4.2]
      rfl
theorem op_26_g (hQ : 1000000 ≤ Q) (hn : n ≤ 512) (hG : LG_g n D S) (hL : L ≤ 3072) (hj : j + 6 ≤ L) : ∃ S2, (∀ K, ja_1864 Q L xs K S = K S2) ∧ LG_g n D S2 ∧ sp_F sp_Wu S S2 := by
  have hG0 := hG
  obtain ⟨hR, hC, hE, h125, h261⟩ := hG
  have hR0 := hR
  obtain ⟨⟨g1, g2, g3, g4⟩, ⟨g5, g6, g7, g8, g9⟩, g10, g11, g12, g13, g14⟩ := hR
  by_cases hno : S.1 254 14 ≠ 0 ∨ S.1 254 13 ≤ S.1 254 12
  · refine ⟨_, fun K => la_26 (c := 1) (b := 0) hL hj (lw_26_x0 (sp_192_no hno)) (sp_358_no (S := ev_tick S) (by rw [sp_tick1]; omega)) rd_eq (fun q => by cases q), LG_no_g hG0, ?_⟩
    exact ⟨fun b g w => (sp_F_no (c := 1)).1 b g (fun q => w (by unfold sp_Wu; unfold sp_Wc at q; omega)), (sp_F_no (c := 1)).2⟩
  · have ho : S.1 254 14 = 0 := by omega
    have hl := g10 ho
    have hEb := lg_E_bs_g hG0 hl
    obtain ⟨d, ed⟩ : ∃ d : Nat, S.1 254 12 = (d : Int) := ⟨(S.1 254 12).toNat, by omega⟩
    have hb := bs_le hR0 (fun g hg => (h261 g hg).1) (a := d) (b := (d : Int) + 1) (by omega) (by omega) (by omega)
    have hb2 := bs_le hR0 (fun g hg => (h261 g hg).1) (a := (d : Int) + 1) (b := S.1 254 13) (by omega) (by omega) (by omega)
    rw [bs_s] at hb hb2
    have e14 := g14 d (by omega)
    have hN := (h261 d (by omega)).1
    obtain ⟨c, ec⟩ : ∃ c : Nat, sp_bs (S.1 714) d = (c : Int) := ⟨(sp_bs (S.1 714) d).toNat, by omega⟩
    obtain ⟨m, em⟩ : ∃ m : Nat, S.1 261 d = (m : Int) := ⟨(S.1 261 d).toNat, by omega⟩
    have e9 : S.1 254 9 = c := by rw [g13, hl, ed, ec]; omega
    have e9n : (S.1 254 9).toNat = c := by omega
    rw [e9n] at hC
    have key : ∀ T : ev_St, (∀ k g, 707 ≤ k ∧ k ≤ 715 ∨ (k = 621 ∧ g = 121) → T.1 k g = S.1 k g) → T.1 621 130 = d → ∃ S' T', jm_192 Q S = some (.inl (m : Int), ev_pI S' 254 12 ((d : Int) + 1)) ∧ jl_358_82 Q Q (dS D c) (c : Int) T = some ((m : Int), ev_pI T' 621 130 ((d : Int) + 1)) ∧ lg_C_g D (lg_E S).toNat (c + m) S' T' ∧ lg_fC S S' ∧ lg_fR T T' := fun T hT hu => by
      have hC1 : lg_C_g D (lg_E S).toNat c S T := lg_C_c_g hC (fun k g hk => rfl) rfl rfl (fun k g hk => hT k g (by omega))
      have f4 : T.1 714 = S.1 714 := funext fun g => hT 714 g (by omega)
      obtain ⟨S', T', r1, r2, r3, r4, r5⟩ := lg_redos_g (Q := Q) (by omega) (by omega) (by omega) (d := d) (u := d) (N := m) (by omega) (by omega) (by omega) m c S T 0 Q Q (by omega) (by omega) hC1 (by omega) (by omega) (by omega) ed (by rw [Int.toNat_natCast]; exact em) hu (by rw [f4, Int.toNat_natCast]; omega) (by rw [f4]; omega)
      refine ⟨S', T', ?_, ?_, r3, r4, r5⟩
      · unfold jm_192
        rw [sp_b, if_neg (by omega), sp_b, sp_b, if_pos (by omega)]
        unfold jm_6
        rw [sp_b, if_neg (by omega), sp_b, if_pos (by omega), r1, sp_bd]
      · rw [r2, f4, Int.toNat_natCast, show S.1 714 d - sp_bs (S.1 714) d = (m : Int) from by omega]
    obtain ⟨S', _, p1, _, _, p4, _⟩ := key (ev_pI S 621 130 d) (fun k g hk => if_neg (by omega)) rd_eq
    have fS : ∀ k g, 707 ≤ k ∧ k ≤ 715 ∨ k = 621 → S'.1 k g = S.1 k g := fun k g hk => p4.1 k g (by omega) (by omega) (by omega) (by omega) (by omega)
    have fT : ∀ k g, ¬ (k = 621 ∧ g = 0) → ¬ (k = 254 ∧ g = 12) → (ev_pI (ev_pL (ev_pI S' 254 12 ((d : Int) + 1)) 723 0 (ev_i2l m)) 621 0 0).1 k g = S'.1 k g := fun k g hk hk2 => by
      rw [sp_pI1, if_neg (by omega), sp_pL1, sp_pI1, if_neg (by omega)]
    have g1S : S'.1 621 130 = (d : Int) := by rw [fS 621 130 (by omega), g1, ed]
    obtain ⟨S'', T', q1, q2, q3, q4, q5⟩ := key (ev_pI (ev_pL (ev_pI S' 254 12 ((d : Int) + 1)) 723 0 (ev_i2l m)) 621 0 0) (fun k g hk => by rw [fT k g (by omega) (by omega), fS k g (by omega)]) (by rw [fT 621 130 (by omega) (by omega), g1S])
    have eS : ev_pI S'' 254 12 ((d : Int) + 1) = ev_pI S' 254 12 ((d : Int) + 1) := by
      rw [p1] at q1
      injection q1 with q
      injection q with _ q
      exact q.symm
    have eS1 : ∀ k g, ¬ (k = 254 ∧ g = 12) → S''.1 k g = S'.1 k g := fun k g h => by
      have := congrArg (fun s : ev_St => s.1 k g) eS
      rw [show (ev_pI S'' 254 12 ((d : Int) + 1)).1 k g = S''.1 k g from if_neg h, show (ev_pI S' 254 12 ((d : Int) + 1)).1 k g = S'.1 k g from if_neg h] at this
      exact this
    have gT : ∀ k g, k ≠ 707 → k ≠ 708 → k ≠ 710 → ¬ (k = 621 ∧ (g = 0 ∨ g = 130)) → ¬ (k = 254 ∧ g = 12) → (ev_pI T' 621 130 ((d : Int) + 1)).1 k g = S''.1 k g := fun k g h1 h2 h3 h4 h5 => by
      rw [sp_pI1, if_neg (by omega), q5.1 k g h1 h2 h3, fT k g (by omega) h5, eS1 k g h5]
    have gS : ∀ k g, ¬ sp_Wu k g → (ev_pI T' 621 130 ((d : Int) + 1)).1 k g = S.1 k g := fun k g hw => by
      unfold sp_Wu at hw
      rw [gT k g (by omega) (by omega) (by omega) (by omega) (by omega), q4.1 k g (by omega) (by omega) (by omega) (by omega) (by omega)]
    have r2T : T'.2.2 = S.2.2 := by
      have a1 := q5.2
      have a2 := p4.2
      rw [a1]
      show S'.2.2 = S.2.2
      rw [a2]
    have t12 : (ev_pI T' 621 130 ((d : Int) + 1)).1 254 12 = (d : Int) + 1 := by
      rw [rd_nk (by omega), q5.1 254 12 (by omega) (by omega) (by omega), rd_nk (by omega), sp_pL1, rd_eq]
    have t13 : (ev_pI T' 621 130 ((d : Int) + 1)).1 254 13 = S.1 254 13 := gS 254 13 (by unfold sp_Wu; omega)
    have t714 : (ev_pI T' 621 130 ((d : Int) + 1)).1 714 = S.1 714 := funext fun g => gS 714 g (by unfold sp_Wu; omega)
    have t9 : (ev_pI T' 621 130 ((d : Int) + 1)).1 254 9 = ((c + m : Nat) : Int) := by rw [gT 254 9 (by omega) (by omega) (by omega) (by omega) (by omega), q3.2.1.1]
    have t130 : (ev_pI T' 621 130 ((d : Int) + 1)).1 621 130 = (d : Int) + 1 := rd_eq
    have tE : lg_E (ev_pI T' 621 130 ((d : Int) + 1)) = lg_E S := by
      rw [hEb]
      unfold lg_E sp_bs
      rw [t12, t13, t714, t9]
      by_cases e : (d : Int) + 1 = S.1 254 13
      · rw [if_pos e, if_neg (by omega), show (S.1 254 13 - 1).toNat = d from by omega]
        omega
      · rw [if_neg e, if_neg (by omega)]
    refine ⟨ev_pI T' 621 130 ((d : Int) + 1), fun K => la_26 (c := 0) (b := (m : Int)) hL hj (lw_26_ok p1) ?_ ?_ (fun _ => ?_), ⟨?_, ?_, ?_, ?_, ?_⟩, ?_⟩
    · obtain ⟨_, _, _, _, _, l4, l5, _⟩ := sp_aln262
      have a : ∀ g, (ev_pL (ev_pI S' 254 12 ((d : Int) + 1)) 723 0 (ev_i2l m)).1 621 g = S.1 621 g := fun g => by
        show (ev_pI S' 254 12 ((d : Int) + 1)).1 621 g = _
        rw [rd_nk (by omega), fS 621 g (by omega)]
      have a714 : ∀ g, (ev_pI (ev_pL (ev_pI S' 254 12 ((d : Int) + 1)) 723 0 (ev_i2l m)) 621 0 0).1 714 g = S.1 714 g := fun g => by rw [fT 714 g (by omega) (by omega), fS 714 g (by omega)]
      have a715 : ∀ g, (ev_pI (ev_pL (ev_pI S' 254 12 ((d : Int) + 1)) 723 0 (ev_i2l m)) 621 0 0).1 715 g = S.1 715 g := fun g => by rw [fT 715 g (by omega) (by omega), fS 715 g (by omega)]
      have a130 : (ev_pI (ev_pL (ev_pI S' 254 12 ((d : Int) + 1)) 723 0 (ev_i2l m)) 621 0 0).1 621 130 = d := by rw [rd_nf (by omega), a, g1, ed]
      unfold jm_358
      simp only [sp_b, sp_jn, a]
      rw [if_neg (by omega), if_pos (by omega), if_pos (by rw [rd_eq]; omega)]
      simp only [a130]
      by_cases e0 : (d : Int) = 0
      · rw [if_neg (fun z => z e0), if_neg (fun z => z e0)]
        have c0 : c = 0 := by
          rw [e0] at ec
          have ec : (0 : Int) = c := ec
          omega
        rw [c0] at q2
        rw [show dS D 0 = 0 from hC.2.2.2.2.2.1.1] at q2
        exact q2
      · obtain ⟨d1, ed1⟩ : ∃ d1 : Nat, d = d1 + 1 := ⟨d - 1, by omega⟩
        have e15 := (h261 d1 (by omega)).2
        have ec1 : S.1 714 d1 = c := by
          rw [ed1, show ((d1 + 1 : Nat) : Int) = (d1 : Int) + 1 from by omega, bs_s] at ec
          exact ec
        rw [if_pos e0, sp_ck (by omega), show (d : Int) - 1 = (d1 : Int) from by omega, sp_if (by rw [l5]; omega), if_pos e0, sp_ck (by omega), sp_if (by rw [l4]; omega), Int.toNat_natCast, a715, a714, e15, ec1, Int.toNat_natCast]
        exact q2
    · rw [rd_nf (by omega), q5.1 621 0 (by omega) (by omega) (by omega), rd_eq]
    · show T'.2.1 723 0 = _
      rw [q5.2]
      exact rd_L
    · unfold sp_LR
      rw [t12, t13, t714, t9, t130, gS 621 131 (by unfold sp_Wu; omega), gS 621 132 (by unfold sp_Wu; omega), gS 254 14 (by unfold sp_Wu; omega), gS 621 126 (by unfold sp_Wu; omega), gS 254 11 (by unfold sp_Wu; omega), hl, gS 621 125 (by unfold sp_Wu; omega), gS 621 128 (by unfold sp_Wu; omega), bs_s]
      refine ⟨⟨rfl, g2, g3, by omega⟩, ⟨by omega, by omega, g7, by omega, g9⟩, fun _ => rfl, fun z => by omega, fun z => ?_, by omega, fun g hg => ?_⟩
      · have hx : lg_E S = ((c + m : Nat) : Int) := by
          rw [hEb, ← z, bs_s]
          omega
        rw [h125.1, h125.2, hx, Int.toNat_natCast]
        refine ⟨rfl, ?_⟩
        rw [gT 254 10 (by omega) (by omega) (by omega) (by omega) (by omega), q3.2.1.2.1]
      · rw [gS 261 g (by unfold sp_Wu; omega)]
        exact g14 g hg
    · rw [tE, t9, Int.toNat_natCast]
      refine lg_C_c_g q3 (fun k g hk => gT k g (by omega) (by omega) (by omega) (by omega) (by omega)) ?_ ?_ (fun k g hk => if_neg (by omega))
      · show T'.2.2.1 = _
        have a1 := q4.2
        rw [show T'.2.2.1 = S.2.2.1 from by rw [r2T], a1]
      · have a1 := q4.2
        unfold ev_sN
        rw [show (ev_pI T' 621 130 ((d : Int) + 1)).2 = T'.2 from rfl, r2T, a1]
    · rw [tE]
      exact hE
    · rw [tE, gS 621 125 (by unfold sp_Wu; omega), gS 621 128 (by unfold sp_Wu; omega)]
      exact h125
    · intro g hg
      rw [t13] at hg
      rw [t714, gS 261 g (by unfold sp_Wu; omega), gS 715 g (by unfold sp_Wu; omega)]
      exact h261 g hg
    · refine ⟨gS, fun b g hb => ?_, by show T'.2.2.1 = _; rw [r2T], by show T'.2.2.2.1 = _; rw [r2T], by show T'.2.2.2.2.1 = _; rw [r2T], by show T'.2.2.2.2.2.1 ≤ _; rw [r2T]; omega, by show T'.2.2.2.2.2.2 ≤ _; rw [r2T]; omega⟩
      show T'.2.1 b g = _
      rw [q5.2]
      show (ev_pL (ev_pI S' 254 12 ((d : Int) + 1)) 723 0 (ev_i2l m)).2.1 b g = _
      rw [sp_pL2, if_neg (fun z => hb z.1)]
      show S'.2.1 b g = _
      rw [p4.2]
end OPSE
