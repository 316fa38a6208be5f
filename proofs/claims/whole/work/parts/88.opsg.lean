/-! A NEW EDIT on both sides, as a whole -/
def lg_N (D : lg_D) (c b : Nat) (f r i : Int) : lg_D := (fun k => if k = c then b else dB D k, fun k => if k = c then f else dF D k, fun k => if k = c then r else dR D k, fun k => if k = c then i else dI D k, fun k b' => if k = c + 1 then (if b' = b then dL D c b' + (i - r) else dL D c b') else dL D k b', fun k => if k = c + 1 then dS D c + r + i else dS D k)
theorem lg_N_S {D : lg_D} {c b : Nat} {f r i : Int} {j : Nat} (h : j ≤ c) : dS (lg_N D c b f r i) j = dS D j := if_neg (by omega)
theorem lg_N_S1 {D : lg_D} {c b : Nat} {f r i : Int} : dS (lg_N D c b f r i) (c + 1) = dS D c + r + i := if_pos rfl
theorem lg_N_V {D : lg_D} {E c b : Nat} {f r i : Int} (hV : lg_V D E) (hc : c ≤ E) (hb : b < 3) (hf : 0 ≤ f ∧ f ≤ 80) (hr : 0 ≤ r ∧ r ≤ 80) (hi : 0 ≤ i ∧ i ≤ 80) (h1 : f + r ≤ dL D c b) (h2 : dL D c b ≤ 160) (h3 : dL D c b - r + i ≤ 160) : lg_V (lg_N D c b f r i) (c + 1) := by
  refine ⟨(lg_N_S (by omega)).trans hV.1, fun k hk => ?_⟩
  by_cases e : k = c
  · subst e
    have e1 : dB (lg_N D k b f r i) k = b := if_pos rfl
    have e2 : dF (lg_N D k b f r i) k = f := if_pos rfl
    have e3 : dR (lg_N D k b f r i) k = r := if_pos rfl
    have e4 : dI (lg_N D k b f r i) k = i := if_pos rfl
    have e5 : ∀ b', dL (lg_N D k b f r i) k b' = dL D k b' := fun b' => if_neg (by omega)
    have e6 : ∀ b', dL (lg_N D k b f r i) (k + 1) b' = if b' = b then dL D k b' + (i - r) else dL D k b' := fun b' => if_pos rfl
    rw [e1, e2, e3, e4, e5, lg_N_S1, lg_N_S (Nat.le_refl _)]
    refine ⟨hb, hf, hr, hi, h1, h2, h3, rfl, fun b' _ => ?_⟩
    rw [e5, e6]
  · have e1 : dB (lg_N D c b f r i) k = dB D k := if_neg e
    have e2 : dF (lg_N D c b f r i) k = dF D k := if_neg e
    have e3 : dR (lg_N D c b f r i) k = dR D k := if_neg e
    have e4 : dI (lg_N D c b f r i) k = dI D k := if_neg e
    have e5 : ∀ b', dL (lg_N D c b f r i) k b' = dL D k b' := fun b' => if_neg (by omega)
    have e6 : ∀ b', dL (lg_N D c b f r i) (k + 1) b' = dL D (k + 1) b' := fun b' => if_neg (by omega)
    rw [e1, e2, e3, e4, e5, lg_N_S (by omega), lg_N_S (by omega)]
    have q := hV.2 k (by omega)
    refine ⟨q.1, q.2.1, q.2.2.1, q.2.2.2.1, q.2.2.2.2.1, q.2.2.2.2.2.1, q.2.2.2.2.2.2.1, q.2.2.2.2.2.2.2.1, fun b' hb' => ?_⟩
    rw [e5, e6]
    exact q.2.2.2.2.2.2.2.2 b' hb'
/-- what an edit changes of the class's -/
def eg_C (S S1 : ev_St) : Prop := (∀ k g, k < 724 → k ≠ 258 → k ≠ 262 → ¬ (263 ≤ k ∧ k ≤ 268) → ¬ (k = 254 ∧ (9 ≤ g ∧ g ≤ 13)) → S1.1 k g = S.1 k g) ∧ S1.1 254 12 = S.1 254 12 ∧ S1.2.1 = S.2.1 ∧ (∀ c j, c ≠ 259 → c ≠ 260 → S1.2.2.1 c j = S.2.2.1 c j) ∧ (ev_sC S1 + ev_sN S = ev_sC S + ev_sN S1 ∧ ev_sZ S1 + 1024 * ev_sN S = ev_sZ S + 1024 * ev_sN S1)
/-- and of the reference's -/
def eg_R (T T1 : ev_St) : Prop := (∀ k g, k ≠ 707 → k ≠ 708 → k ≠ 710 → k ≠ 712 → k ≠ 713 → ¬ (k = 621 ∧ (g = 125 ∨ g = 126 ∨ g = 128 ∨ g = 131)) → T1.1 k g = T.1 k g) ∧ T1.2 = T.2
theorem lg_edit {Q b k E c : Nat} {f r off i fr isD u : Int} {y : Nat → Int} {D : lg_D} {S T : ev_St} (hQ : 1000 ≤ Q) (hC : lg_C D E c S T) (hb : b < 3) (hf : 0 ≤ f ∧ f ≤ 80) (hr : 0 ≤ r ∧ r ≤ 80) (hi : 0 ≤ i ∧ i ≤ 80) (hfr : f + r ≤ S.1 (263 + 2 * b) 1) (hn : S.1 (263 + 2 * b) 1 - r + i ≤ 160) (hk : k < 724) (hk2 : k ≠ 254) (ho : 0 ≤ off ∧ off + i ≤ (ev_aln k : Int) ∧ (ev_aln k : Int) ≤ 1000000) (hy : ∀ g : Nat, (g : Int) < i → S.1 k (off + g).toNat = y g ∧ 0 ≤ y g ∧ y g < 127) (hD : (isD = 0 ∧ (0 ≤ fr ∧ fr + i ≤ 200) ∧ ∀ g : Nat, (g : Int) < i → T.1 702 (fr + g).toNat = y g) ∨ (isD = 1 ∧ i ≤ 120 ∧ ∀ g : Nat, (g : Int) < i → T.1 622 g = y g)) (hu : T.1 621 130 = u) (hu0 : 0 ≤ u ∧ u < 1024) (hk1 : T.1 621 131 ≤ u → T.1 621 125 = c ∧ T.1 621 128 = dS D c) (hk3 : u < T.1 621 131 → sp_bs (T.1 714) u = c ∧ sp_bs (T.1 715) u = dS D c) (hc : (c : Int) < 420000) (hs : dS D c + r + i ≤ 840000) (hd : S.1 254 12 < 1024) (h11 : 0 ≤ S.1 254 11 ∧ S.1 254 11 ≤ 1000000) (h126 : 0 ≤ T.1 621 126 ∧ T.1 621 126 ≤ 1000000) : ∃ S' T', jm_4 Q (b : Int) f r (k + 1) off i S = some ((), S') ∧ jm_343 Q (b : Int) f (f + r) fr i isD T = some ((), T') ∧ lg_C (lg_N D c b f r i) (c + 1) (c + 1) S' T' ∧ (S'.1 254 13 = S.1 254 12 ∧ S'.1 254 11 = S.1 254 11 + 1) ∧ (T'.1 621 125 = (c : Int) + 1 ∧ T'.1 621 126 = T.1 621 126 + 1 ∧ T'.1 621 128 = dS D c + r + i ∧ T'.1 621 131 = (if u < T.1 621 131 then u else T.1 621 131)) ∧ eg_C S S' ∧ eg_R T T' := by
  obtain ⟨c1, ⟨c2, c3, c4⟩, c5, c6, c7, c8, c9⟩ := hC
  have g1 := lg_mono2 c8 (k := c) (n := E) (by omega) (by omega)
  have hl := c4 b hb
  obtain ⟨b1, b2, b3, b4⟩ := c6 b hb
  obtain ⟨S1, p1, p2, p3, p4⟩ := ed_C (Q := Q) (k := k) (f := f) (r := r) (off := off) (i := i) (c := (c : Int)) (s := dS D c) (P := (b : Int) + 4 * f + 1024 * r + 262144 * i) hQ c5 hb hf.1 ⟨hr.1, by omega⟩ ⟨hi.1, by omega⟩ hfr b2 (fun g hg => (b4 g hg).2) hk hk2 ho (fun g hg => by rw [(hy g hg).1]; exact (hy g hg).2) c2 (by omega) c3 (by omega) hd h11 rfl (by omega)
  obtain ⟨T1, q1, q2, q3, q4, q5, q6, q7, q8⟩ := ed_R (Q := Q) (b := b) (f := f) (r := r) (fr := fr) (i := i) (c := (c : Int)) (s := dS D c) (P := f + 128 * r + 16384 * i + 2097152 * (b : Int)) (isD := isD) (u := u) (y := y) (T := T) hQ hb hf.1 ⟨hr.1, by omega⟩ ⟨hi.1, by omega⟩ (by omega) (fun g hg => by
    obtain ⟨w1, w2⟩ := b4 g (by omega)
    rw [w1]
    exact w2) (fun g hg => (hy g hg).2) hD hu hu0 hk1 hk3 (by omega) (by omega) h126 rfl (by omega)
  have n1 : ∀ k g, k < 724 → ¬ (k = 254 ∧ (g = 11 ∨ g = 13)) → (ev_pI S1 254 11 (S.1 254 11 + 1)).1 k g = S.1 k g := fun k g h1 h2 => by
    rw [sp_pI1, if_neg (by omega), p2.1 k g h1, sp_pI1, if_neg (by omega)]
  have n2 : ∀ a j, a = 259 ∨ a = 260 → lg_r a (ev_pI S1 254 11 (S.1 254 11 + 1)) j = lg_r a S1 j := fun a j ha => lg_r_c p2.2.2.2.2 ha rfl (fun k g hk => rd_nk (by omega))
  have hC1 : lg_C (lg_N D c b f r i) (c + 1) c (ev_pI S1 254 11 (S.1 254 11 + 1)) T1 := by
    refine ⟨by omega, ⟨by rw [n1 _ _ (by omega) (by omega), c2], by rw [n1 _ _ (by omega) (by omega), c3, lg_N_S (Nat.le_refl _)], fun b' hb' => by rw [n1 _ _ (by omega) (by omega), c4 b' hb']; exact (if_neg (by omega)).symm⟩, lg_W_c p2.2.2.2.2 rfl rfl, t2_B_c c6 (fun b g h1 h2 => n1 b g (by omega) (by omega)) (fun b g hb => q8.1 b g (by omega) (by omega) (by omega)), t2_M_c c7 (n1 _ _ (by omega) (by omega)) (fun b g h1 h2 => n1 b g (by omega) (by omega)) (fun b hb => n1 _ _ (by omega) (by omega)) (q8.1 _ _ (by omega) (by omega) (by omega)) (fun b g h1 h2 => q8.1 b g (by omega) (by omega) (by omega)), lg_N_V c8 c1 hb hf hr hi (by omega) (by omega) (by omega), fun k hk => ?_, fun j hj => ?_⟩
    · rw [n2 _ _ (Or.inl rfl), p3, q6]
      by_cases e : k = c
      · rw [if_pos (by omega), if_pos (by omega)]
        have e1 : dB (lg_N D c b f r i) k = b := if_pos e
        have e2 : dF (lg_N D c b f r i) k = f := if_pos e
        have e3 : dR (lg_N D c b f r i) k = r := if_pos e
        have e4 : dI (lg_N D c b f r i) k = i := if_pos e
        rw [e1, e2, e3, e4]
        exact ⟨rfl, rfl⟩
      · rw [if_neg (by omega), if_neg (by omega)]
        have e1 : dB (lg_N D c b f r i) k = dB D k := if_neg e
        have e2 : dF (lg_N D c b f r i) k = dF D k := if_neg e
        have e3 : dR (lg_N D c b f r i) k = dR D k := if_neg e
        have e4 : dI (lg_N D c b f r i) k = dI D k := if_neg e
        rw [e1, e2, e3, e4]
        exact c9.1 k (by omega)
    · rw [lg_N_S1] at hj
      rw [n2 _ _ (Or.inr rfl), p4, q7]
      by_cases e1 : dS D c ≤ (j : Int) ∧ (j : Int) < dS D c + r
      · rw [if_pos e1, if_pos e1]
        exact b4 _ (by omega)
      · rw [if_neg e1, if_neg e1]
        by_cases e2 : dS D c + r ≤ (j : Int) ∧ (j : Int) < dS D c + r + i
        · rw [if_pos e2, if_pos e2]
          obtain ⟨w1, w2⟩ := hy ((j : Int) - (dS D c + r)).toNat (by omega)
          rw [show off + (((((j : Int) - (dS D c + r)).toNat) : Nat) : Int) = off + ((j : Int) - (dS D c + r)) from by omega] at w1
          rw [w1]
          exact ⟨rfl, w2⟩
        · rw [if_neg e2, if_neg e2]
          exact c9.2 j (by omega)
  obtain ⟨S', T', k1, k2, k3, k4, k5⟩ := lg_redo (Q := Q) (by omega) hC1 (by omega) (by omega) (by rw [lg_N_S1]; exact hs)
  have e1 : dB (lg_N D c b f r i) c = b := if_pos rfl
  have e2 : dF (lg_N D c b f r i) c = f := if_pos rfl
  have e3 : dR (lg_N D c b f r i) c = r := if_pos rfl
  have e4 : dI (lg_N D c b f r i) c = i := if_pos rfl
  rw [e1, e2, e3, e4, lg_N_S (Nat.le_refl _)] at k2
  have m1 : ∀ g, ¬ (9 ≤ g ∧ g ≤ 10) → S'.1 254 g = (ev_pI S1 254 11 (S.1 254 11 + 1)).1 254 g := fun g hg => k4.1 254 g (by omega) (by omega) (by omega) (by omega) (by omega)
  have m2 : ∀ g, T'.1 621 g = T1.1 621 g := fun g => k5.1 621 g (by omega) (by omega) (by omega)
  refine ⟨S', T', by rw [p1, k1, sp_bd], by rw [q1, k2, sp_bd], k3, ⟨?_, ?_⟩, ⟨by rw [m2, q2], by rw [m2, q3], by rw [m2, q4], by rw [m2, q5]⟩, ⟨fun a g h1 h2 h3 h4 h5 => ?_, ?_, ?_, fun a j h1 h2 => ?_, ?_⟩, ⟨fun a g h1 h2 h3 h4 h5 h6 => ?_, ?_⟩⟩
  · rw [m1 13 (by omega), rd_nf (by omega), p2.1 _ _ (by omega), rd_eq]
  · rw [m1 11 (by omega), rd_eq]
  · rw [k4.1 a g h2 h3 (by omega) (by omega) (by omega), n1 a g h1 (by omega)]
  · rw [m1 12 (by omega), n1 _ _ (by omega) (by omega)]
  · have := k4.2
    rw [this]
    show S1.2.1 = _
    rw [p2.2.1]
    rfl
  · have := k4.2
    rw [this]
    show S1.2.2.1 a j = _
    rw [p2.2.2.1 a j h1 h2]
    rfl
  · have := k4.2
    unfold ev_sC ev_sN ev_sZ
    rw [this]
    exact p2.2.2.2.1
  · rw [k5.1 a g h1 h2 h3, q8.1 a g h4 h5 h6]
  · rw [k5.2, q8.2]
