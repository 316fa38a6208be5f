/-! GROUPS OF EDITS: undo, redo -/
theorem lg_C_c {D : lg_D} {E c : Nat} {S T S2 T2 : ev_St} (h : lg_C D E c S T) (hS : ∀ k g, (k = 254 ∧ (g = 4 ∨ g = 9 ∨ g = 10)) ∨ (256 ≤ k ∧ k ≤ 258) ∨ (263 ≤ k ∧ k ≤ 268) ∨ 724 ≤ k → S2.1 k g = S.1 k g) (hR : S2.2.2.1 = S.2.2.1) (hN : ev_sN S2 = ev_sN S) (hT : ∀ k g, 707 ≤ k ∧ k ≤ 713 ∨ (k = 621 ∧ g = 121) → T2.1 k g = T.1 k g) : lg_C D E c S2 T2 := by
  obtain ⟨c1, ⟨c2, c3, c4⟩, c5, c6, c7, c8, c9⟩ := h
  refine ⟨c1, ⟨by rw [hS 254 9 (by omega), c2], by rw [hS 254 10 (by omega), c3], fun b hb => by rw [hS _ _ (by omega), c4 b hb]⟩, lg_W_c c5 hR hN, t2_B_c c6 (fun b g h1 h2 => hS b g (by omega)) (fun b g hb => hT b g (by omega)), t2_M_c c7 (hS _ _ (by omega)) (fun b g h1 h2 => hS b g (by omega)) (fun b hb => hS _ _ (by omega)) (hT _ _ (by omega)) (fun b g h1 h2 => hT b g (by omega)), c8, lg_H_c c9 c5 hR (fun k g hk => hS k g (by omega)) (fun k g hk => hT k g (by omega))⟩
theorem sp_356 {Q : Nat} {u : Int} {T : ev_St} (hu : 0 ≤ u ∧ u < 2000) (h1 : 0 ≤ T.1 714 u.toNat ∧ T.1 714 u.toNat ≤ 1000000) (h2 : 0 ≤ sp_bs (T.1 714) u ∧ sp_bs (T.1 714) u ≤ 1000000) : jm_356 Q u T = some (T.1 714 u.toNat - sp_bs (T.1 714) u, T) := by
  obtain ⟨_, _, _, _, _, l4, _, _⟩ := sp_aln262
  unfold jm_356
  unfold sp_bs at h2 ⊢
  by_cases h0 : u = 0
  · rw [if_pos h0] at h2 ⊢
    rw [sp_if (by rw [l4]; omega), sp_b, if_neg (fun z => z h0), sp_ck (by omega)]
  · rw [if_neg h0] at h2 ⊢
    rw [sp_if (by rw [l4]; omega), sp_b, if_pos h0, sp_ck (by omega), sp_if (by rw [l4]; omega), sp_b, sp_ck (by omega)]
theorem lg_undos {Q : Nat} {D : lg_D} {E : Nat} (hQ : 600 ≤ Q) (hE : (E : Int) ≤ 420000) (hS : dS D E ≤ 840000) {d u e0 N : Int} (hd : 0 ≤ d ∧ d < 1024) (hu : 0 ≤ u ∧ u < 1024) (hN : 0 ≤ N ∧ N ≤ 1000000) : ∀ (m c : Nat) (S T : ev_St) (x : Int) (q q' : Nat), m < q → m < q' → lg_C D E (c + m) S T → x + m = N → 0 ≤ x → S.1 254 12 = d → S.1 261 d.toNat = N → T.1 621 130 = u → T.1 714 u.toNat = e0 → e0 - (e0 - sp_bs (T.1 714) u) = (c : Int) → 0 ≤ e0 ∧ e0 ≤ 1000000 → ∃ S' T', jl_5_31 Q q x S = some (N, S') ∧ jl_357_64 Q q' (dS D (c + m)) ((c : Int) + m - 1) T = some (e0 - sp_bs (T.1 714) u, T') ∧ lg_C D E c S' T' ∧ lg_fC S S' ∧ lg_fR T T'
  | m, c, S, T, x, 0, q', h, _, _, _, _, _, _, _, _, _, _ => by omega
  | m, c, S, T, x, q + 1, 0, _, h, _, _, _, _, _, _, _, _, _ => by omega
  | 0, c, S, T, x, q + 1, q' + 1, _, _, hC, hx, hx0, h1, h2, h3, h4, h5, h6 => by
    obtain ⟨_, _, _, _, _, l4, _, l6⟩ := sp_aln262
    have hcE := hC.1
    refine ⟨S, T, ?_, ?_, hC, lg_fC_r S, lg_fR_r T⟩
    · show jb_5_31 Q (jl_5_31 Q q) x S = _
      unfold jb_5_31
      rw [sp_b, h1, sp_if (by rw [l6]; omega), sp_b, h2, if_pos (by omega), sp_b, sp_if (by rw [l6]; omega), sp_b, h2]
    · show jb_357_64 Q (jl_357_64 Q q') _ _ T = _
      have e := sp_356 (Q := Q) (u := u) (T := T) (by omega) (by omega) (by omega)
      unfold jb_357_64
      rw [sp_b, h3, sp_if (by rw [l4]; omega), sp_b, h4, sp_b, e, sp_bd, h4, sp_ck (by omega), if_pos (by omega), sp_b, h3, e, sp_bd, h4]
  | m + 1, c, S, T, x, q + 1, q' + 1, hq, hq', hC, hx, hx0, h1, h2, h3, h4, h5, h6 => by
    obtain ⟨_, _, _, l2, _, l4, _, l6⟩ := sp_aln262
    have hC' : lg_C D E (c + m + 1) S T := hC
    have hcE := hC.1
    obtain ⟨S1, T1, k1, k2, k3, k4, k5⟩ := lg_undo (Q := Q) hQ hC' hE hS
    have f1 : S1.1 254 12 = d := by rw [k4.1 254 12 (by omega) (by omega) (by omega) (by omega) (by omega), h1]
    have f2 : ∀ g, S1.1 261 g = S.1 261 g := fun g => k4.1 261 g (by omega) (by omega) (by omega) (by omega) (by omega)
    have f3 : T1.1 621 130 = u := by rw [k5.1 621 130 (by omega) (by omega) (by omega), h3]
    have f4 : T1.1 714 = T.1 714 := funext fun g => k5.1 714 g (by omega) (by omega) (by omega)
    obtain ⟨S', T', r1, r2, r3, r4, r5⟩ := lg_undos hQ hE hS hd hu hN m c S1 T1 (x + 1) q q' (by omega) (by omega) k3 (by omega) (by omega) f1 (by rw [f2, h2]) f3 (by rw [f4, h4]) (by rw [f4]; exact h5) h6
    refine ⟨S', T', ?_, ?_, r3, lg_fC_t k4 r4, lg_fR_t k5 r5⟩
    · show jb_5_31 Q (jl_5_31 Q q) x S = _
      unfold jb_5_31
      rw [sp_b, h1, sp_if (by rw [l6]; omega), sp_b, h2, if_neg (by omega), k1, sp_bd, sp_ck (by omega)]
      exact r1
    · show jb_357_64 Q (jl_357_64 Q q') _ _ T = _
      have e := sp_356 (Q := Q) (u := u) (T := T) (by omega) (by omega) (by omega)
      obtain ⟨c1, ⟨c2, c3, c4⟩, c5, c6, c7, c8, c9⟩ := hC'
      obtain ⟨v1, v2, v3, v4, v5, v6, v7, v8, v9⟩ := c8.2 (c + m) (by omega)
      have p2 := (c9.1 (c + m) (by omega)).2
      have g1 := lg_mono2 c8 (k := c + m) (n := c + m + 1) (by omega) (by omega)
      have g2 := lg_mono2 c8 (k := c + m + 1) (n := E) (by omega) (by omega)
      generalize hP : T.1 712 (c + m) = P at p2
      obtain ⟨u1, u2, u3, u4, u5, u6, u7, u8⟩ := lg_unR (b := (dB D (c + m) : Int)) (by omega) v2 v3 v4 p2
      have e1 : ((c : Int) + ((m + 1 : Nat) : Int) - 1) = ((c + m : Nat) : Int) := by omega
      rw [f4, show (c : Int) + m - 1 = ((c + m : Nat) : Int) + (-1) from by omega] at r2
      rw [e1, show c + (m + 1) = c + m + 1 from rfl]
      unfold jb_357_64
      rw [sp_b, h3, sp_if (by rw [l4]; omega), sp_b, h4, sp_b, e, sp_bd, h4, sp_ck (by omega), if_neg (by omega), sp_if (by rw [l2]; omega), Int.toNat_natCast, hP, sp_b, sp_if (by decide), sp_rem (by omega) (by omega), u1, sp_b, sp_if (by rw [l2]; omega), sp_b, sp_if (by decide), sp_div (by omega) (by omega), sp_b, sp_if (by decide), sp_rem (by omega) (by omega), u2, sp_b, sp_if (by rw [l2]; omega), sp_b, sp_if (by decide), sp_div (by omega) (by omega), sp_b, sp_if (by decide), sp_rem (by omega) (by omega), u3, sp_b, sp_ck (by omega), sp_ck (by omega), sp_if (by rw [l2]; omega), sp_b, sp_if (by decide), sp_div (by omega) (by omega), u4, sp_b, sp_ck (by omega), show dS D (c + m + 1) - (dR D (c + m) + dI D (c + m)) = dS D (c + m) from by omega, k2, sp_bd, sp_ck (by omega)]
      exact r2
theorem lg_redos {Q : Nat} {D : lg_D} {E : Nat} (hQ : 600 ≤ Q) (hE : (E : Int) ≤ 420000) (hS : dS D E ≤ 840000) {d u N : Int} (hd : 0 ≤ d ∧ d < 1024) (hu : 0 ≤ u ∧ u < 1024) (hN : 0 ≤ N ∧ N ≤ 1000000) : ∀ (m c : Nat) (S T : ev_St) (x : Int) (q q' : Nat), m < q → m < q' → lg_C D E c S T → c + m ≤ E → x + m = N → 0 ≤ x → S.1 254 12 = d → S.1 261 d.toNat = N → T.1 621 130 = u → T.1 714 u.toNat = ((c + m : Nat) : Int) → 0 ≤ sp_bs (T.1 714) u ∧ sp_bs (T.1 714) u ≤ 1000000 → ∃ S' T', jl_6_21 Q q x S = some (N, ev_pI S' 254 12 (d + 1)) ∧ jl_358_82 Q q' (dS D c) (c : Int) T = some (T.1 714 u.toNat - sp_bs (T.1 714) u, ev_pI T' 621 130 (u + 1)) ∧ lg_C D E (c + m) S' T' ∧ lg_fC S S' ∧ lg_fR T T'
  | m, c, S, T, x, 0, q', h, _, _, _, _, _, _, _, _, _, _ => by omega
  | m, c, S, T, x, q + 1, 0, _, h, _, _, _, _, _, _, _, _, _ => by omega
  | 0, c, S, T, x, q + 1, q' + 1, _, _, hC, hc, hx, hx0, h1, h2, h3, h4, h6 => by
    obtain ⟨_, _, _, _, _, l4, _, l6⟩ := sp_aln262
    have hcE := hC.1
    refine ⟨S, T, ?_, ?_, hC, lg_fC_r S, lg_fR_r T⟩
    · show jb_6_21 Q (jl_6_21 Q q) x S = _
      unfold jb_6_21
      rw [sp_b, h1, sp_if (by rw [l6]; omega), sp_b, h2, if_pos (by omega), sp_b, sp_ck (by omega), sp_b, sp_b, rd_eq, sp_ck (by omega), sp_if (by rw [l6]; omega), sp_b, show d + 1 - 1 = d from by omega, rd_nk (by omega), h2]
    · show jb_358_82 Q (jl_358_82 Q q') _ _ T = _
      have e := sp_356 (Q := Q) (u := u) (T := ev_pI T 621 130 (u + 1)) (by omega) (by rw [rd_nk (by omega)]; omega) (by rw [show (ev_pI T 621 130 (u + 1)).1 714 = T.1 714 from funext fun g => rd_nk (by omega)]; exact h6)
      rw [rd_nk (by omega), show (ev_pI T 621 130 (u + 1)).1 714 = T.1 714 from funext fun g => rd_nk (by omega)] at e
      unfold jb_358_82
      rw [sp_b, h3, sp_if (by rw [l4]; omega), sp_b, if_pos (by omega), sp_b, sp_ck (by omega), sp_b, sp_b, rd_eq, sp_ck (by omega), show u + 1 - 1 = u from by omega, e, sp_bd]
  | m + 1, c, S, T, x, q + 1, q' + 1, hq, hq', hC, hc, hx, hx0, h1, h2, h3, h4, h6 => by
    obtain ⟨_, _, _, l2, _, l4, _, l6⟩ := sp_aln262
    obtain ⟨S1, T1, k1, k2, k3, k4, k5⟩ := lg_redo (Q := Q) hQ hC (by omega) hE hS
    have f1 : S1.1 254 12 = d := by rw [k4.1 254 12 (by omega) (by omega) (by omega) (by omega) (by omega), h1]
    have f2 : ∀ g, S1.1 261 g = S.1 261 g := fun g => k4.1 261 g (by omega) (by omega) (by omega) (by omega) (by omega)
    have f3 : T1.1 621 130 = u := by rw [k5.1 621 130 (by omega) (by omega) (by omega), h3]
    have f4 : T1.1 714 = T.1 714 := funext fun g => k5.1 714 g (by omega) (by omega) (by omega)
    obtain ⟨S', T', r1, r2, r3, r4, r5⟩ := lg_redos hQ hE hS hd hu hN m (c + 1) S1 T1 (x + 1) q q' (by omega) (by omega) k3 (by omega) (by omega) (by omega) f1 (by rw [f2, h2]) f3 (by rw [f4, h4]; omega) (by rw [f4]; exact h6)
    refine ⟨S', T', ?_, ?_, by rw [show c + (m + 1) = c + 1 + m from by omega]; exact r3, lg_fC_t k4 r4, lg_fR_t k5 r5⟩
    · show jb_6_21 Q (jl_6_21 Q q) x S = _
      unfold jb_6_21
      rw [sp_b, h1, sp_if (by rw [l6]; omega), sp_b, h2, if_neg (by omega), k1, sp_bd, sp_ck (by omega)]
      exact r1
    · show jb_358_82 Q (jl_358_82 Q q') _ _ T = _
      obtain ⟨c1, ⟨c2, c3, c4⟩, c5, c6, c7, c8, c9⟩ := hC
      obtain ⟨v1, v2, v3, v4, v5, v6, v7, v8, v9⟩ := c8.2 c (by omega)
      have p2 := (c9.1 c (by omega)).2
      have g1 := lg_mono2 c8 (k := c) (n := c + 1) (by omega) (by omega)
      have g2 := lg_mono2 c8 (k := c + 1) (n := E) (by omega) (by omega)
      generalize hP : T.1 712 c = P at p2
      obtain ⟨u1, u2, u3, u4, u5, u6, u7, u8⟩ := lg_unR (b := (dB D c : Int)) (by omega) v2 v3 v4 p2
      rw [f4, v8, show ((c + 1 : Nat) : Int) = (c : Int) + 1 from by omega] at r2
      unfold jb_358_82
      rw [sp_b, h3, sp_if (by rw [l4]; omega), sp_b, if_neg (by omega), sp_if (by rw [l2]; omega), Int.toNat_natCast, hP, sp_b, sp_if (by decide), sp_rem (by omega) (by omega), u1, sp_b, sp_if (by rw [l2]; omega), sp_b, sp_if (by decide), sp_div (by omega) (by omega), sp_b, sp_if (by decide), sp_rem (by omega) (by omega), u2, sp_b, sp_if (by rw [l2]; omega), sp_b, sp_if (by decide), sp_div (by omega) (by omega), sp_b, sp_if (by decide), sp_rem (by omega) (by omega), u3, sp_b, sp_if (by rw [l2]; omega), sp_b, sp_if (by decide), sp_div (by omega) (by omega), u4, sp_b, sp_ck (by omega), sp_ck (by omega), k2, sp_bd, sp_ck (by omega), sp_ck (by omega), sp_ck (by omega), show dS D c + (dR D c + dI D c) = dS D c + dR D c + dI D c from by omega]
      exact r2
