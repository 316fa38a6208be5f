/-! THE LOG OF EDITS: what the rows tell, undo and redo of one edit -/
/-- the edits: buffer, place, how many go, how many come; lengths before each edit; signs in the log before each edit -/
abbrev lg_D : Type := (Nat → Nat) × (Nat → Int) × (Nat → Int) × (Nat → Int) × (Nat → Nat → Int) × (Nat → Int)
def dB (D : lg_D) : Nat → Nat := D.1
def dF (D : lg_D) : Nat → Int := D.2.1
def dR (D : lg_D) : Nat → Int := D.2.2.1
def dI (D : lg_D) : Nat → Int := D.2.2.2.1
def dL (D : lg_D) : Nat → Nat → Int := D.2.2.2.2.1
def dS (D : lg_D) : Nat → Int := D.2.2.2.2.2
def lg_V (D : lg_D) (E : Nat) : Prop := dS D 0 = 0 ∧ ∀ k, k < E → dB D k < 3 ∧ (0 ≤ dF D k ∧ dF D k ≤ 80) ∧ (0 ≤ dR D k ∧ dR D k ≤ 80) ∧ (0 ≤ dI D k ∧ dI D k ≤ 80) ∧ dF D k + dR D k ≤ dL D k (dB D k) ∧ dL D k (dB D k) ≤ 160 ∧ dL D k (dB D k) - dR D k + dI D k ≤ 160 ∧ dS D (k + 1) = dS D k + dR D k + dI D k ∧ ∀ b, b < 3 → dL D (k + 1) b = if b = dB D k then dL D k b + (dI D k - dR D k) else dL D k b
def lg_H (D : lg_D) (E : Nat) (S T : ev_St) : Prop := (∀ k, k < E → lg_r 259 S k = (dB D k : Int) + 4 * dF D k + 1024 * dR D k + 262144 * dI D k ∧ T.1 712 k = dF D k + 128 * dR D k + 16384 * dI D k + 2097152 * (dB D k : Int)) ∧ ∀ j : Nat, (j : Int) < dS D E → T.1 713 j = lg_r 260 S j ∧ 0 ≤ lg_r 260 S j ∧ lg_r 260 S j < 127
def lg_C (D : lg_D) (E c : Nat) (S T : ev_St) : Prop := c ≤ E ∧ (S.1 254 9 = (c : Int) ∧ S.1 254 10 = dS D c ∧ ∀ b, b < 3 → S.1 (263 + 2 * b) 1 = dL D c b) ∧ lg_W S ∧ t2_B S T ∧ t2_M S T ∧ lg_V D E ∧ lg_H D E S T
def lg_fC (S S' : ev_St) : Prop := (∀ c g, c ≠ 258 → c ≠ 262 → ¬ (264 ≤ c ∧ c ≤ 268) → ¬ (c = 263 ∧ g = 1) → ¬ (c = 254 ∧ (g = 9 ∨ g = 10)) → S'.1 c g = S.1 c g) ∧ S'.2 = S.2
def lg_fR (T T' : ev_St) : Prop := (∀ c g, c ≠ 707 → c ≠ 708 → c ≠ 710 → T'.1 c g = T.1 c g) ∧ T'.2 = T.2
theorem lg_fC_r (S : ev_St) : lg_fC S S := ⟨fun _ _ _ _ _ _ _ => rfl, rfl⟩
theorem lg_fR_r (S : ev_St) : lg_fR S S := ⟨fun _ _ _ _ _ => rfl, rfl⟩
theorem lg_fC_t {S S1 S2 : ev_St} (h1 : lg_fC S S1) (h2 : lg_fC S1 S2) : lg_fC S S2 := ⟨fun c g a1 a2 a3 a4 a5 => by rw [h2.1 c g a1 a2 a3 a4 a5, h1.1 c g a1 a2 a3 a4 a5], by rw [h2.2, h1.2]⟩
theorem lg_fR_t {S S1 S2 : ev_St} (h1 : lg_fR S S1) (h2 : lg_fR S1 S2) : lg_fR S S2 := ⟨fun c g a1 a2 a3 => by rw [h2.1 c g a1 a2 a3, h1.1 c g a1 a2 a3], by rw [h2.2, h1.2]⟩
theorem t2_B_c {S T S2 T2 : ev_St} (h : t2_B S T) (h1 : ∀ b g, 263 ≤ b → b ≤ 268 → S2.1 b g = S.1 b g) (h2 : ∀ b g, b = 707 ∨ b = 708 → T2.1 b g = T.1 b g) : t2_B S2 T2 := fun b hb => by
  rw [h1 _ _ (by omega) (by omega), h2 _ _ (Or.inl rfl)]
  obtain ⟨a1, a2, a3, a4⟩ := h b hb
  refine ⟨a1, a2, a3, fun g hg => ?_⟩
  rw [h1 _ _ (by omega) (by omega), h2 _ _ (Or.inr rfl)]
  exact a4 g hg
theorem t2_M_c {S T S2 T2 : ev_St} (h : t2_M S T) (h0 : S2.1 254 4 = S.1 254 4) (h1 : ∀ b g, 256 ≤ b → b ≤ 258 → S2.1 b g = S.1 b g) (h3 : ∀ b, b < 3 → S2.1 (263 + 2 * b) 1 = S.1 (263 + 2 * b) 1) (h4 : T2.1 621 121 = T.1 621 121) (h2 : ∀ b g, 709 ≤ b → b ≤ 711 → T2.1 b g = T.1 b g) : t2_M S2 T2 := by
  obtain ⟨a1, a2, a3, a4⟩ := h
  unfold t2_M
  rw [h0, h4]
  refine ⟨a1, a2, a3, fun g hg => ?_⟩
  obtain ⟨w1, w2, w3, w4, w5, w6, w7⟩ := a4 g hg
  rw [h1 256 g (by omega) (by omega), h1 257 g (by omega) (by omega), h1 258 g (by omega) (by omega), h2 709 g (by omega) (by omega), h2 710 g (by omega) (by omega), h2 711 g (by omega) (by omega), h3 _ (by omega)]
  exact ⟨w1, w2, w3, w4, w5, w6, w7⟩
theorem lg_mono {D : lg_D} {E : Nat} (h : lg_V D E) : ∀ m k : Nat, k + m ≤ E → 0 ≤ dS D k ∧ dS D k ≤ dS D (k + m)
  | 0, 0, _ => by rw [h.1]; exact ⟨by omega, h.1 ▸ Int.le_refl _⟩
  | 0, k + 1, hk => by
    have q := lg_mono h 0 k (by omega)
    have r := h.2 k (by omega)
    have e : k + 1 + 0 = k + 1 := rfl
    rw [e]
    omega
  | m + 1, k, hk => by
    have q := lg_mono h m k (by omega)
    have r := h.2 (k + m) (by omega)
    have e : k + (m + 1) = k + m + 1 := rfl
    rw [e]
    omega
theorem lg_mono2 {D : lg_D} {E k n : Nat} (h : lg_V D E) (h1 : k ≤ n) (h2 : n ≤ E) : 0 ≤ dS D k ∧ dS D k ≤ dS D n := by
  have := lg_mono h (n - k) k (by omega)
  rw [show k + (n - k) = n from by omega] at this
  exact this
theorem lg_H_c {D : lg_D} {E : Nat} {S T S2 T2 : ev_St} (h : lg_H D E S T) (hW : lg_W S) (h1 : S2.2.2.1 = S.2.2.1) (h2 : ∀ k g, 724 ≤ k → S2.1 k g = S.1 k g) (h3 : ∀ k g, k = 712 ∨ k = 713 → T2.1 k g = T.1 k g) : lg_H D E S2 T2 := by
  refine ⟨fun k hk => ?_, fun j hj => ?_⟩
  · rw [lg_r_c hW (Or.inl rfl) h1 h2, h3 712 k (Or.inl rfl)]
    exact h.1 k hk
  · rw [lg_r_c hW (Or.inr rfl) h1 h2, h3 713 j (Or.inr rfl)]
    exact h.2 j hj
theorem lg_unC {P b f r i : Int} (hb : 0 ≤ b ∧ b < 3) (hf : 0 ≤ f ∧ f ≤ 80) (hr : 0 ≤ r ∧ r ≤ 80) (hi : 0 ≤ i ∧ i ≤ 80) (e : P = b + 4 * f + 1024 * r + 262144 * i) : P % 4 = b ∧ P / 4 % 256 = f ∧ P / 1024 % 256 = r ∧ P / 262144 = i ∧ 0 ≤ P ∧ P ≤ 2147483647 ∧ 0 ≤ P / 4 ∧ 0 ≤ P / 1024 := by
  have e1 : P / 4 = f + 256 * (r + 256 * i) := by omega
  have e2 : P / 1024 = r + 256 * i := by omega
  rw [e1, e2]
  refine ⟨by omega, by omega, by omega, by omega, by omega, by omega, by omega, by omega⟩
theorem lg_unR {P b f r i : Int} (hb : 0 ≤ b ∧ b < 3) (hf : 0 ≤ f ∧ f ≤ 80) (hr : 0 ≤ r ∧ r ≤ 80) (hi : 0 ≤ i ∧ i ≤ 80) (e : P = f + 128 * r + 16384 * i + 2097152 * b) : P % 128 = f ∧ P / 128 % 128 = r ∧ P / 16384 % 128 = i ∧ P / 2097152 = b ∧ 0 ≤ P ∧ P ≤ 2147483647 ∧ 0 ≤ P / 128 ∧ 0 ≤ P / 16384 := by
  have e1 : P / 128 = r + 128 * (i + 128 * b) := by omega
  have e2 : P / 16384 = i + 128 * b := by omega
  rw [e1, e2]
  refine ⟨by omega, by omega, by omega, by omega, by omega, by omega, by omega, by omega⟩
/-- one edit again -/
theorem lg_redo {Q : Nat} {D : lg_D} {E c : Nat} {S T : ev_St} (hQ : 600 ≤ Q) (hC : lg_C D E c S T) (hc : c < E) (hE : (E : Int) ≤ 420000) (hS : dS D E ≤ 840000) : ∃ S' T', jm_7 Q S = some ((), S') ∧ jm_341 Q (dB D c : Int) (dF D c) (dF D c + dR D c) (dS D c + dR D c) (dI D c) T = some ((), T') ∧ lg_C D E (c + 1) S' T' ∧ lg_fC S S' ∧ lg_fR T T' := by
  obtain ⟨c1, ⟨c2, c3, c4⟩, c5, c6, c7, c8, c9⟩ := hC
  obtain ⟨v1, v2, v3, v4, v5, v6, v7, v8, v9⟩ := c8.2 c hc
  obtain ⟨p1, p2⟩ := c9.1 c hc
  have g1 := lg_mono2 c8 (k := c) (n := c + 1) (by omega) (by omega)
  have g2 := lg_mono2 c8 (k := c + 1) (n := E) (by omega) (by omega)
  generalize hP : lg_r 259 S c = P at p1
  obtain ⟨u1, u2, u3, u4, u5, u6, u7, u8⟩ := lg_unC (b := (dB D c : Int)) (by omega) v2 v3 v4 p1
  have hl := c4 (dB D c) v1
  obtain ⟨S1, T1, k1, k2, k3, k4, k5, k6, k7, k8, k9⟩ := t2_pf (Q := Q) (b := dB D c) (a0 := P) (f := dF D c) (r := dR D c) (i := dI D c) (a3 := dS D c + dR D c) (s3 := dS D c + dR D c) hQ c5 c6 c7 v1 ⟨u5, u6⟩ u1 u2 v2.1 v3.1 v4.1 (by omega) (by omega) (by omega) (by omega) (fun g hg => by
    have := c9.2 (dS D c + dR D c + g).toNat (by omega)
    exact this)
  have f9 : S1.1 254 9 = (c : Int) := by rw [k6 254 9 (by omega) (by omega) (by omega) (by omega), c2]
  have f10 : S1.1 254 10 = dS D c := by rw [k6 254 10 (by omega) (by omega) (by omega) (by omega), c3]
  have hR : ∀ k g, k ≠ 254 → (ev_pI (ev_pI S1 254 9 ((c : Int) + 1)) 254 10 (dS D c + (dR D c + dI D c))).1 k g = S1.1 k g := fun k g hk => by rw [rd_nk hk, rd_nk hk]
  refine ⟨ev_pI (ev_pI S1 254 9 ((c : Int) + 1)) 254 10 (dS D c + (dR D c + dI D c)), T1, ?_, k2, ⟨by omega, ⟨by rw [rd_nf (by omega), rd_eq]; omega, by rw [rd_eq]; omega, fun b hb => ?_⟩, ?_, ?_, ?_, c8, ?_⟩, ⟨fun a g a1 a2 a3 a4 a5 => ?_, k7⟩, ⟨k8, k9⟩⟩
  · unfold jm_7
    rw [sp_b, c2, sp_14 (by omega), sp_bd, Int.toNat_natCast, hP, sp_div (by omega) (by omega), sp_div (by omega) (by omega), sp_if (by decide), sp_b, sp_if (by decide), sp_b, sp_rem (by omega) (by omega), sp_if (by decide), sp_b, u3, u4, sp_b, c3, sp_ck (by omega), k1, sp_bd, sp_b, f9, sp_ck (by omega), sp_b, sp_b, rd_nf (by omega), f10, sp_ck (by omega), sp_ck (by omega), sp_b]
  · rw [hR _ _ (by omega), k5 b hb, v9 b hb]
    by_cases e : b = dB D c
    · rw [if_pos e, if_pos e, hl, e]
    · rw [if_neg e, if_neg e, c4 b hb]
  · exact lg_W_c c5 (by show S1.2.2.1 = _; rw [k7]) (by show ev_sN S1 = _; unfold ev_sN; rw [k7])
  · exact t2_B_c k3 (fun b g _ _ => hR b g (by omega)) (fun _ _ _ => rfl)
  · exact t2_M_c k4 (by rw [rd_nf (by omega), rd_nf (by omega)]) (fun b g _ _ => hR b g (by omega)) (fun b _ => hR _ _ (by omega)) rfl (fun _ _ _ _ => rfl)
  · exact lg_H_c c9 c5 (by show S1.2.2.1 = _; rw [k7]) (fun k g hk => by rw [hR k g (by omega), k6 k g (by omega) (by omega) (by omega) (by omega)]) (fun k g hk => k8 k g (by omega) (by omega) (by omega))
  · by_cases e : a = 254
    · rw [e, rd_nf (by omega), rd_nf (by omega), k6 254 g (by omega) (by omega) (by omega) (by omega)]
    · rw [hR a g e, k6 a g a1 a2 a3 a4]
/-- one edit undone -/
theorem lg_undo {Q : Nat} {D : lg_D} {E c : Nat} {S T : ev_St} (hQ : 600 ≤ Q) (hC : lg_C D E (c + 1) S T) (hE : (E : Int) ≤ 420000) (hS : dS D E ≤ 840000) : ∃ S' T', jm_8 Q S = some ((), S') ∧ jm_341 Q (dB D c : Int) (dF D c) (dF D c + dI D c) (dS D c) (dR D c) T = some ((), T') ∧ lg_C D E c S' T' ∧ lg_fC S S' ∧ lg_fR T T' := by
  obtain ⟨c1, ⟨c2, c3, c4⟩, c5, c6, c7, c8, c9⟩ := hC
  obtain ⟨v1, v2, v3, v4, v5, v6, v7, v8, v9⟩ := c8.2 c (by omega)
  obtain ⟨p1, p2⟩ := c9.1 c (by omega)
  have g1 := lg_mono2 c8 (k := c) (n := c + 1) (by omega) (by omega)
  have g2 := lg_mono2 c8 (k := c + 1) (n := E) (by omega) (by omega)
  generalize hP : lg_r 259 S c = P at p1
  obtain ⟨u1, u2, u3, u4, u5, u6, u7, u8⟩ := lg_unC (b := (dB D c : Int)) (by omega) v2 v3 v4 p1
  have hl := c4 (dB D c) v1
  rw [v9 _ v1, if_pos rfl] at hl
  have hR : ∀ k g, k ≠ 254 → (ev_pI (ev_pI S 254 9 (c : Int)) 254 10 (dS D c)).1 k g = S.1 k g := fun k g hk => by rw [rd_nk hk, rd_nk hk]
  have hW0 : lg_W (ev_pI (ev_pI S 254 9 (c : Int)) 254 10 (dS D c)) := lg_W_c c5 rfl rfl
  have hr : ∀ a i, a = 259 ∨ a = 260 → lg_r a (ev_pI (ev_pI S 254 9 (c : Int)) 254 10 (dS D c)) i = lg_r a S i := fun a i ha => lg_r_c c5 ha rfl (fun k g hk => hR k g (by omega))
  have hB0 : t2_B (ev_pI (ev_pI S 254 9 (c : Int)) 254 10 (dS D c)) T := t2_B_c c6 (fun b g _ _ => hR b g (by omega)) (fun _ _ _ => rfl)
  have hM0 : t2_M (ev_pI (ev_pI S 254 9 (c : Int)) 254 10 (dS D c)) T := t2_M_c c7 (by rw [rd_nf (by omega), rd_nf (by omega)]) (fun b g _ _ => hR b g (by omega)) (fun b _ => hR _ _ (by omega)) rfl (fun _ _ _ _ => rfl)
  have hl0 : ∀ b, (ev_pI (ev_pI S 254 9 (c : Int)) 254 10 (dS D c)).1 (263 + 2 * b) 1 = S.1 (263 + 2 * b) 1 := fun b => hR _ _ (by omega)
  obtain ⟨S1, T1, k1, k2, k3, k4, k5, k6, k7, k8, k9⟩ := t2_pf (Q := Q) (b := dB D c) (a0 := P) (f := dF D c) (r := dI D c) (i := dR D c) (a3 := dS D c) (s3 := dS D c) hQ hW0 hB0 hM0 v1 ⟨u5, u6⟩ u1 u2 v2.1 v4.1 v3.1 (by rw [hl0]; omega) (by rw [hl0]; omega) (by omega) (by omega) (fun g hg => by
    rw [hr _ _ (Or.inr rfl)]
    exact c9.2 (dS D c + g).toNat (by omega))
  refine ⟨S1, T1, ?_, k2, ⟨by omega, ⟨?_, ?_, fun b hb => ?_⟩, ?_, k3, k4, c8, ?_⟩, ⟨fun a g a1 a2 a3 a4 a5 => ?_, k7⟩, ⟨k8, k9⟩⟩
  · unfold jm_8
    rw [sp_b, c2, show ((c + 1 : Nat) : Int) - 1 = (c : Int) from by omega, sp_ck (by omega), sp_b, sp_b, rd_eq, sp_14 (by omega), sp_bd, Int.toNat_natCast, lg_r_c (T := ev_pI S 254 9 (c : Int)) c5 (Or.inl rfl) rfl (fun k g hk => rd_nk (by omega)), hP, sp_div (by omega) (by omega), sp_div (by omega) (by omega), sp_if (by decide), sp_b, sp_if (by decide), sp_b, sp_rem (by omega) (by omega), sp_if (by decide), sp_b, u3, u4, sp_b, rd_nf (by omega), c3, sp_ck (by omega), sp_ck (by omega), show dS D (c + 1) - (dR D c + dI D c) = dS D c from by omega, sp_b, sp_b, rd_eq, k1, sp_bd]
  · rw [k6 254 9 (by omega) (by omega) (by omega) (by omega), rd_nf (by omega), rd_eq]
  · rw [k6 254 10 (by omega) (by omega) (by omega) (by omega), rd_eq]
  · rw [k5 b hb]
    by_cases e : b = dB D c
    · rw [if_pos e, hl0, hl, e]
      omega
    · rw [if_neg e, hl0, c4 b hb, v9 b hb, if_neg e]
  · exact lg_W_c hW0 (by rw [k7]) (by unfold ev_sN; rw [k7])
  · refine lg_H_c c9 c5 (by rw [k7]; rfl) (fun k g hk => by rw [k6 k g (by omega) (by omega) (by omega) (by omega), hR k g (by omega)]) (fun k g hk => k8 k g (by omega) (by omega) (by omega))
  · rw [k6 a g a1 a2 a3 a4]
    by_cases e : a = 254
    · rw [e, rd_nf (by omega), rd_nf (by omega)]
    · rw [hR a g e]
  
