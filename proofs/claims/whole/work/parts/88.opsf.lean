/-! A NEW EDIT on both sides -/
theorem jn1 {δ : Type} {t : ev_St → δ} {f : (ev_St → δ) → δ} (P : δ → Prop) (A : ev_St → Prop) (h1 : ∀ s, A s → P (t s)) (h2 : ∃ s, A s ∧ ∀ K, f K = K s) : P (ev_jn t f) := by
  obtain ⟨s, a, e⟩ := h2
  rw [sp_jn, e]
  exact h1 s a
/-- what the class writes into its log: cells that are new -/
def lg_G (S S1 : ev_St) : Prop := (∀ k g, k < 724 → S1.1 k g = S.1 k g) ∧ S1.2.1 = S.2.1 ∧ (∀ c j, c ≠ 259 → c ≠ 260 → S1.2.2.1 c j = S.2.2.1 c j) ∧ (ev_sC S1 + ev_sN S = ev_sC S + ev_sN S1 ∧ ev_sZ S1 + 1024 * ev_sN S = ev_sZ S + 1024 * ev_sN S1) ∧ lg_W S1
theorem lg_G_w {a i : Nat} {b : Bool} {x : Int} {S S1 : ev_St} (h : lg_G S S1) (ha : a = 259 ∨ a = 260) (hi : i / 1024 < 1024) : lg_G S (lg_w a b i x S1) := by
  obtain ⟨h1, h2, h3, ⟨h4, h5⟩, h6⟩ := h
  have q := lg_w_c (a := a) (i := i) (b := b) (x := x) (S := S1)
  refine ⟨fun k g hk => by rw [lg_w_f h6 ha hk, h1 k g hk], by rw [lg_w_l, h2], fun c j c1 c2 => by rw [lg_w_p (by omega), h3 c j c1 c2], ⟨by omega, by omega⟩, lg_w_W h6 ha hi⟩
theorem ed_C {Q b k : Nat} {f r off i c s P : Int} {S : ev_St} (hQ : 1000 ≤ Q) (hW : lg_W S) (hb : b < 3) (hf : 0 ≤ f) (hr : 0 ≤ r ∧ r ≤ 160) (hi : 0 ≤ i ∧ i ≤ 160) (hfr : f + r ≤ S.1 (263 + 2 * b) 1) (hl : S.1 (263 + 2 * b) 1 ≤ 160) (hch : ∀ g : Nat, (g : Int) < S.1 (263 + 2 * b) 1 → 0 ≤ S.1 (263 + 2 * b + 1) g ∧ S.1 (263 + 2 * b + 1) g < 127) (hk : k < 724) (hk2 : k ≠ 254) (ho : 0 ≤ off ∧ off + i ≤ (ev_aln k : Int) ∧ (ev_aln k : Int) ≤ 1000000) (hy : ∀ g : Nat, (g : Int) < i → 0 ≤ S.1 k (off + g).toNat ∧ S.1 k (off + g).toNat < 127) (h9 : S.1 254 9 = c) (hc : 0 ≤ c ∧ c < 524288) (h10 : S.1 254 10 = s) (hs : 0 ≤ s ∧ s + r + i ≤ 1048576) (hd : S.1 254 12 < 1024) (h11 : 0 ≤ S.1 254 11 ∧ S.1 254 11 ≤ 1000000) (hP : P = (b : Int) + 4 * f + 1024 * r + 262144 * i) (hP2 : P ≤ 2147483647) : ∃ S1, jm_4 Q (b : Int) f r (k + 1) off i S = ev_bd (jm_7 Q (ev_pI S1 254 11 (S.1 254 11 + 1))) (fun _ s' => some ((), s')) ∧ lg_G (ev_pI S 254 13 (S.1 254 12)) S1 ∧ (∀ j : Nat, lg_r 259 S1 j = if (j : Int) = c then P else lg_r 259 S j) ∧ ∀ j : Nat, lg_r 260 S1 j = if s ≤ (j : Int) ∧ (j : Int) < s + r then S.1 (263 + 2 * b + 1) (f + (j - s)).toNat else if s + r ≤ (j : Int) ∧ (j : Int) < s + r + i then S.1 k (off + (j - (s + r))).toNat else lg_r 260 S j := by
  have hW0 : lg_W (ev_pI S 254 13 (S.1 254 12)) := lg_W_c hW rfl rfl
  have hr0 : ∀ a j, a = 259 ∨ a = 260 → lg_r a (ev_pI S 254 13 (S.1 254 12)) j = lg_r a S j := fun a j ha => lg_r_c hW ha rfl (fun k g hk => rd_nk (by omega))
  have f0 : ∀ k g, k ≠ 254 → (ev_pI S 254 13 (S.1 254 12)).1 k g = S.1 k g := fun k g hk => rd_nk hk
  have f1 : (ev_pI S 254 13 (S.1 254 12)).1 254 9 = c ∧ (ev_pI S 254 13 (S.1 254 12)).1 254 10 = s ∧ (ev_pI S 254 13 (S.1 254 12)).1 254 11 = S.1 254 11 := ⟨by rw [rd_nf (by omega), h9], by rw [rd_nf (by omega), h10], rd_nf (by omega)⟩
  generalize hS0 : ev_pI S 254 13 (S.1 254 12) = S0 at *
  have hG1 : lg_G S0 (lg_w 259 false c.toNat P S0) := lg_G_w ⟨fun _ _ _ => rfl, rfl, fun _ _ _ _ => rfl, ⟨rfl, rfl⟩, hW0⟩ (Or.inl rfl) (by omega)
  -- the second loop
  have lp2 : ∀ S2, lg_G S0 S2 → (∀ j : Nat, lg_r 259 S2 j = if (j : Int) = c then P else lg_r 259 S j) → (∀ j : Nat, lg_r 260 S2 j = if s ≤ (j : Int) ∧ (j : Int) < s + r then S.1 (263 + 2 * b + 1) (f + (j - s)).toNat else lg_r 260 S j) → ∃ S1, jl_4_124 Q r (k + 1) off i Q 0 S2 = ev_bd (jm_7 Q (ev_pI S1 254 11 (S.1 254 11 + 1))) (fun _ s' => some ((), s')) ∧ lg_G S0 S1 ∧ (∀ j : Nat, lg_r 259 S1 j = if (j : Int) = c then P else lg_r 259 S j) ∧ ∀ j : Nat, lg_r 260 S1 j = if s ≤ (j : Int) ∧ (j : Int) < s + r then S.1 (263 + 2 * b + 1) (f + (j - s)).toNat else if s + r ≤ (j : Int) ∧ (j : Int) < s + r + i then S.1 k (off + (j - (s + r))).toNat else lg_r 260 S j := fun S2 a1 a2 a3 => by
    refine lq1 (l := jl_4_124 Q r (k + 1) off i) (b := jb_4_124 Q r (k + 1) off i) (fun _ => rfl) (fun m x S1 => x = i - m ∧ 0 ≤ x ∧ lg_G S0 S1 ∧ (∀ j : Nat, lg_r 259 S1 j = if (j : Int) = c then P else lg_r 259 S j) ∧ ∀ j : Nat, lg_r 260 S1 j = if s ≤ (j : Int) ∧ (j : Int) < s + r then S.1 (263 + 2 * b + 1) (f + (j - s)).toNat else if s + r ≤ (j : Int) ∧ (j : Int) < s + r + x then S.1 k (off + (j - (s + r))).toNat else lg_r 260 S j) (fun R => ∃ S1, R = ev_bd (jm_7 Q (ev_pI S1 254 11 (S.1 254 11 + 1))) (fun _ s' => some ((), s')) ∧ lg_G S0 S1 ∧ (∀ j : Nat, lg_r 259 S1 j = if (j : Int) = c then P else lg_r 259 S j) ∧ ∀ j : Nat, lg_r 260 S1 j = if s ≤ (j : Int) ∧ (j : Int) < s + r then S.1 (263 + 2 * b + 1) (f + (j - s)).toNat else if s + r ≤ (j : Int) ∧ (j : Int) < s + r + i then S.1 k (off + (j - (s + r))).toNat else lg_r 260 S j) ?_ Q i.toNat 0 S2 (by omega) ⟨by omega, by omega, a1, a2, fun j => by rw [a3]; by_cases e : s ≤ (j : Int) ∧ (j : Int) < s + r; (rw [if_pos e, if_pos e]); (rw [if_neg e, if_neg e, if_neg (by omega)])⟩
    rintro m x S1 ⟨x1, x2, x3, x4, x5⟩
    have y9 : S1.1 254 10 = s := by rw [x3.1 _ _ (by omega), f1.2.1]
    have y11 : S1.1 254 11 = S.1 254 11 := by rw [x3.1 _ _ (by omega), f1.2.2]
    by_cases hx : i ≤ x
    · refine Or.inl ⟨_, ⟨S1, rfl, x3, x4, fun j => ?_⟩, fun K => ?_⟩
      · rw [x5, show x = i from by omega]
      · unfold jb_4_124
        rw [if_pos hx, sp_b, y11, sp_ck (by omega), sp_b]
    · have yk : S1.1 k (off + x).toNat = S.1 k (off + x).toNat := by rw [x3.1 _ _ hk, f0 _ _ hk2]
      have hyx := hy x.toNat (by omega)
      rw [show ((x.toNat : Nat) : Int) = x from by omega] at hyx
      refine Or.inr ⟨m - 1, x + 1, lg_w 260 true (s + r + x).toNat (S.1 k (off + x).toNat) S1, by omega, ⟨by omega, by omega, lg_G_w x3 (Or.inr rfl) (by omega), fun j => ?_, fun j => ?_⟩, fun K => ?_⟩
      · rw [lg_w_r x3.2.2.2.2 (Or.inr rfl) (Or.inl rfl), if_neg (by omega), x4]
      · rw [lg_w_r x3.2.2.2.2 (Or.inr rfl) (Or.inr rfl), x5]
        by_cases e : j = (s + r + x).toNat
        · rw [if_pos ⟨rfl, e⟩, if_neg (by omega), if_pos (by omega), show off + ((j : Int) - (s + r)) = off + x from by omega]
        · rw [if_neg (fun q => e q.2)]
          by_cases e1 : s ≤ (j : Int) ∧ (j : Int) < s + r
          · rw [if_pos e1, if_pos e1]
          · rw [if_neg e1, if_neg e1]
            by_cases e2 : s + r ≤ (j : Int) ∧ (j : Int) < s + r + x
            · rw [if_pos e2, if_pos (by omega)]
            · rw [if_neg e2, if_neg (by omega)]
      · unfold jb_4_124
        rw [if_neg hx, sp_b, y9, sp_ck (by omega), sp_ck (by omega), sp_ck (by omega), sp_if (by omega), show k + 1 - 1 = k from rfl, sp_if (by omega), sp_b, yk, sp_15 (by omega) hyx, sp_bd, sp_ck (by omega)]
  -- the first
  have lp1 : ∃ S2, jl_4_89 Q f r (k + 1) off i (263 + 2 * b + 1) Q 0 (lg_w 259 false c.toNat P S0) = jl_4_124 Q r (k + 1) off i Q 0 S2 ∧ lg_G S0 S2 ∧ (∀ j : Nat, lg_r 259 S2 j = if (j : Int) = c then P else lg_r 259 S j) ∧ ∀ j : Nat, lg_r 260 S2 j = if s ≤ (j : Int) ∧ (j : Int) < s + r then S.1 (263 + 2 * b + 1) (f + (j - s)).toNat else lg_r 260 S j := by
    refine lq1 (l := jl_4_89 Q f r (k + 1) off i (263 + 2 * b + 1)) (b := jb_4_89 Q f r (k + 1) off i (263 + 2 * b + 1)) (fun _ => rfl) (fun m x S1 => x = r - m ∧ 0 ≤ x ∧ lg_G S0 S1 ∧ (∀ j : Nat, lg_r 259 S1 j = if (j : Int) = c then P else lg_r 259 S j) ∧ ∀ j : Nat, lg_r 260 S1 j = if s ≤ (j : Int) ∧ (j : Int) < s + x then S.1 (263 + 2 * b + 1) (f + (j - s)).toNat else lg_r 260 S j) (fun R => ∃ S2, R = jl_4_124 Q r (k + 1) off i Q 0 S2 ∧ lg_G S0 S2 ∧ (∀ j : Nat, lg_r 259 S2 j = if (j : Int) = c then P else lg_r 259 S j) ∧ ∀ j : Nat, lg_r 260 S2 j = if s ≤ (j : Int) ∧ (j : Int) < s + r then S.1 (263 + 2 * b + 1) (f + (j - s)).toNat else lg_r 260 S j) ?_ Q r.toNat 0 _ (by omega) ⟨by omega, by omega, hG1, fun j => ?_, fun j => ?_⟩
    · rintro m x S1 ⟨x1, x2, x3, x4, x5⟩
      have y9 : S1.1 254 10 = s := by rw [x3.1 _ _ (by omega), f1.2.1]
      by_cases hx : r ≤ x
      · refine Or.inl ⟨_, ⟨S1, rfl, x3, x4, fun j => ?_⟩, fun K => ?_⟩
        · rw [x5, show x = r from by omega]
        · unfold jb_4_89
          rw [if_pos hx]
      · have yl : S1.1 (263 + 2 * b) 1 = S.1 (263 + 2 * b) 1 := by rw [x3.1 _ _ (by omega), f0 _ _ (by omega)]
        have yk : sp_at S1 (263 + 2 * b) (f + x) = S.1 (263 + 2 * b + 1) (f + x).toNat := by
          unfold sp_at
          rw [yl, if_pos (by omega), x3.1 _ _ (by omega), f0 _ _ (by omega)]
        have hyx := hch (f + x).toNat (by omega)
        refine Or.inr ⟨m - 1, x + 1, lg_w 260 true (s + x).toNat (S.1 (263 + 2 * b + 1) (f + x).toNat) S1, by omega, ⟨by omega, by omega, lg_G_w x3 (Or.inr rfl) (by omega), fun j => ?_, fun j => ?_⟩, fun K => ?_⟩
        · rw [lg_w_r x3.2.2.2.2 (Or.inr rfl) (Or.inl rfl), if_neg (by omega), x4]
        · rw [lg_w_r x3.2.2.2.2 (Or.inr rfl) (Or.inr rfl), x5]
          by_cases e : j = (s + x).toNat
          · rw [if_pos ⟨rfl, e⟩, if_pos (by omega), show f + ((j : Int) - s) = f + x from by omega]
          · rw [if_neg (fun q => e q.2)]
            by_cases e2 : s ≤ (j : Int) ∧ (j : Int) < s + x
            · rw [if_pos e2, if_pos (by omega)]
            · rw [if_neg e2, if_neg (by omega)]
        · unfold jb_4_89
          rw [if_neg hx, sp_b, y9, sp_ck (by omega), sp_ck (by omega), show 263 + 2 * b + 1 - 1 = 263 + 2 * b from rfl, sp_151 (sp_buf b hb) (by omega), sp_bd, yk, sp_15 (by omega) hyx, sp_bd, sp_ck (by omega)]
    · rw [lg_w_r hW0 (Or.inl rfl) (Or.inl rfl)]
      by_cases e : (j : Int) = c
      · rw [if_pos ⟨rfl, by omega⟩, if_pos e]
      · rw [if_neg (fun q => e (by have := q.2; omega)), if_neg e, hr0 _ _ (Or.inl rfl)]
    · rw [lg_w_r hW0 (Or.inl rfl) (Or.inr rfl), if_neg (by omega), if_neg (by omega), hr0 _ _ (Or.inr rfl)]
  obtain ⟨S2, p1, p2, p3, p4⟩ := lp1
  obtain ⟨S1, q1, q2, q3, q4⟩ := lp2 S2 p2 p3 p4
  refine ⟨S1, ?_, q2, q3, q4⟩
  have e3 : (if 0 ≤ (b : Int) ∧ (b : Int) < 3 then 263 + 2 * (b : Int).toNat + 1 else 0) = 263 + 2 * b + 1 := by
    rw [if_pos ⟨by omega, by omega⟩, Int.toNat_natCast]
  unfold jm_4
  rw [sp_1, sp_bd, e3, if_neg (by omega), if_neg (by omega), if_neg (by omega), if_neg (by omega), sp_ck (by omega), sp_if (by omega), sp_b, show k + 1 - 1 = k from rfl, if_pos (by omega), sp_ck (by omega)]
  have h11' : jm_11 Q (r + i) S = some (1, S) := by
    unfold jm_11
    rw [sp_b, h9, if_neg (by omega), sp_b, h10, sp_ck (by omega), if_neg (by omega), sp_b, if_neg (by omega)]
  rw [h11', sp_bd, sp_jn, if_pos (by decide)]
  dsimp only
  rw [sp_b, sp_b, hS0, sp_b, f1.1, sp_ck (by omega), sp_ck (by omega), sp_ck (by omega), sp_ck (by omega), sp_ck (by omega), sp_ck (by omega), ← hP, sp_13 (by omega), sp_bd, p1, q1]
/-- the reference's -/
theorem sp_342 {Q : Nat} {x z : Int} {T : ev_St} (hx : 0 ≤ x ∧ x < 127) (hz : T.1 621 128 = z) (h : 0 ≤ z ∧ z < 840000) : jm_342 Q x T = some ((), ev_pI (ev_pI T 713 z.toNat x) 621 128 (z + 1)) := by
  obtain ⟨_, _, _, _, l, _⟩ := sp_aln262
  obtain ⟨e5, e6⟩ := sp_byte hx
  unfold jm_342
  rw [sp_b, hz, e5, sp_b, sp_if e6, sp_if (by rw [l]; omega), sp_b, sp_b, rd_nk (by omega), hz, sp_ck (by omega), sp_b]
/-- cells that the reference's edit writes ahead of the text -/
def er_f (T T1 : ev_St) : Prop := (∀ k g, k ≠ 712 → k ≠ 713 → ¬ (k = 621 ∧ (g = 125 ∨ g = 126 ∨ g = 128 ∨ g = 131)) → T1.1 k g = T.1 k g) ∧ T1.2 = T.2
theorem ed_R {Q b : Nat} {f r fr i c s P isD u : Int} {y : Nat → Int} {T : ev_St} (hQ : 1000 ≤ Q) (hb : b < 3) (hf : 0 ≤ f) (hr : 0 ≤ r ∧ r ≤ 160) (hi : 0 ≤ i ∧ i ≤ 160) (hfr : f + r ≤ 160) (hch : ∀ g : Nat, (g : Int) < f + r → 0 ≤ T.1 708 (200 * b + g) ∧ T.1 708 (200 * b + g) < 127) (hy : ∀ g : Nat, (g : Int) < i → 0 ≤ y g ∧ y g < 127) (hD : (isD = 0 ∧ (0 ≤ fr ∧ fr + i ≤ 200) ∧ ∀ g : Nat, (g : Int) < i → T.1 702 (fr + g).toNat = y g) ∨ (isD = 1 ∧ i ≤ 120 ∧ ∀ g : Nat, (g : Int) < i → T.1 622 g = y g)) (hu : T.1 621 130 = u) (hu0 : 0 ≤ u ∧ u < 1024) (hk1 : T.1 621 131 ≤ u → T.1 621 125 = c ∧ T.1 621 128 = s) (hk2 : u < T.1 621 131 → sp_bs (T.1 714) u = c ∧ sp_bs (T.1 715) u = s) (hc : 0 ≤ c ∧ c < 420000) (hs : 0 ≤ s ∧ s + r + i ≤ 840000) (h126 : 0 ≤ T.1 621 126 ∧ T.1 621 126 ≤ 1000000) (hP : P = f + 128 * r + 16384 * i + 2097152 * (b : Int)) (hP2 : P ≤ 2147483647) : ∃ T1, jm_343 Q (b : Int) f (f + r) fr i isD T = ev_bd (jm_341 Q (b : Int) f (f + r) (s + r) i T1) (fun _ s' => some ((), s')) ∧ T1.1 621 125 = c + 1 ∧ T1.1 621 126 = T.1 621 126 + 1 ∧ T1.1 621 128 = s + r + i ∧ T1.1 621 131 = (if u < T.1 621 131 then u else T.1 621 131) ∧ (∀ j : Nat, T1.1 712 j = if (j : Int) = c then P else T.1 712 j) ∧ (∀ j : Nat, T1.1 713 j = if s ≤ (j : Int) ∧ (j : Int) < s + r then T.1 708 (200 * b + (f + (j - s)).toNat) else if s + r ≤ (j : Int) ∧ (j : Int) < s + r + i then y (j - (s + r)).toNat else T.1 713 j) ∧ er_f T T1 := by
  obtain ⟨_, l702, l622, l712, l713, l714, l715, _⟩ := sp_aln262
  unfold jm_343
  rw [sp_b, sp_b]
  refine jn1 (P := fun R => ∃ T1, R = ev_bd (jm_341 Q (b : Int) f (f + r) (s + r) i T1) (fun _ s' => some ((), s')) ∧ T1.1 621 125 = c + 1 ∧ T1.1 621 126 = T.1 621 126 + 1 ∧ T1.1 621 128 = s + r + i ∧ T1.1 621 131 = (if u < T.1 621 131 then u else T.1 621 131) ∧ (∀ j : Nat, T1.1 712 j = if (j : Int) = c then P else T.1 712 j) ∧ (∀ j : Nat, T1.1 713 j = if s ≤ (j : Int) ∧ (j : Int) < s + r then T.1 708 (200 * b + (f + (j - s)).toNat) else if s + r ≤ (j : Int) ∧ (j : Int) < s + r + i then y (j - (s + r)).toNat else T.1 713 j) ∧ er_f T T1) (A := fun T0 => T0.1 621 125 = c ∧ T0.1 621 126 = T.1 621 126 ∧ T0.1 621 128 = s ∧ T0.1 621 131 = (if u < T.1 621 131 then u else T.1 621 131) ∧ (∀ k g, ¬ (k = 621 ∧ (g = 125 ∨ g = 128 ∨ g = 131)) → T0.1 k g = T.1 k g) ∧ T0.2 = T.2) ?_ ?_
  · rintro T0 ⟨a1, a2, a3, a4, a5, a6⟩
    rw [sp_b, a1, show f + r - f = r from by omega, sp_ck (by omega), sp_ck (by omega), sp_ck (by omega), sp_ck (by omega), sp_ck (by omega), sp_ck (by omega), sp_ck (by omega), ← hP, sp_if (by rw [l712]; omega), sp_b, sp_b, rd_nk (by omega), a1, sp_ck (by omega), sp_b, sp_b, rd_nf (by omega), rd_nk (by omega), a2, sp_ck (by omega), sp_b]
    have b1 : ∀ k g, k ≠ 712 → ¬ (k = 621 ∧ (g = 125 ∨ g = 126)) → (ev_pI (ev_pI (ev_pI T0 712 c.toNat P) 621 125 (c + 1)) 621 126 (T.1 621 126 + 1)).1 k g = T0.1 k g := fun k g h1 h2 => by rw [sp_pI1, if_neg (by omega), sp_pI1, if_neg (by omega), rd_nk h1]
    have b2 : ∀ j : Nat, (ev_pI (ev_pI (ev_pI T0 712 c.toNat P) 621 125 (c + 1)) 621 126 (T.1 621 126 + 1)).1 712 j = if (j : Int) = c then P else T.1 712 j := fun j => by
      rw [rd_nk (by omega), rd_nk (by omega), sp_pI1]
      by_cases e : (j : Int) = c
      · rw [if_pos ⟨rfl, by omega⟩, if_pos e]
      · rw [if_neg (by omega), if_neg e, a5 712 j (by omega)]
    have b3 : (ev_pI (ev_pI (ev_pI T0 712 c.toNat P) 621 125 (c + 1)) 621 126 (T.1 621 126 + 1)).1 621 125 = c + 1 ∧ (ev_pI (ev_pI (ev_pI T0 712 c.toNat P) 621 125 (c + 1)) 621 126 (T.1 621 126 + 1)).1 621 126 = T.1 621 126 + 1 := ⟨by rw [rd_nf (by omega), rd_eq], rd_eq⟩
    have b4 : (ev_pI (ev_pI (ev_pI T0 712 c.toNat P) 621 125 (c + 1)) 621 126 (T.1 621 126 + 1)).2 = T.2 := a6
    generalize ev_pI (ev_pI (ev_pI T0 712 c.toNat P) 621 125 (c + 1)) 621 126 (T.1 621 126 + 1) = T2 at b1 b2 b3 b4 ⊢
    -- what the loops keep
    have inv : ∀ (z : Int) (T3 : ev_St), ((∀ k g, k ≠ 713 → ¬ (k = 621 ∧ g = 128) → T3.1 k g = T2.1 k g) ∧ T3.2 = T2.2) → T3.1 621 128 = s + r + i → z = 0 → (∀ j : Nat, T3.1 713 j = if s ≤ (j : Int) ∧ (j : Int) < s + r then T.1 708 (200 * b + (f + (j - s)).toNat) else if s + r ≤ (j : Int) ∧ (j : Int) < s + r + i then y (j - (s + r)).toNat else T.1 713 j) → T3.1 621 125 = c + 1 ∧ T3.1 621 126 = T.1 621 126 + 1 ∧ T3.1 621 128 = s + r + i ∧ T3.1 621 131 = (if u < T.1 621 131 then u else T.1 621 131) ∧ (∀ j : Nat, T3.1 712 j = if (j : Int) = c then P else T.1 712 j) ∧ (∀ j : Nat, T3.1 713 j = if s ≤ (j : Int) ∧ (j : Int) < s + r then T.1 708 (200 * b + (f + (j - s)).toNat) else if s + r ≤ (j : Int) ∧ (j : Int) < s + r + i then y (j - (s + r)).toNat else T.1 713 j) ∧ er_f T T3 := fun z T3 w1 w2 _ w3 => by
      refine ⟨by rw [w1.1 621 125 (by omega) (by omega), b3.1], by rw [w1.1 621 126 (by omega) (by omega), b3.2], w2, by rw [w1.1 621 131 (by omega) (by omega), b1 621 131 (by omega) (by omega), a4], fun j => by rw [w1.1 712 j (by omega) (by omega), b2], w3, fun k g h1 h2 h3 => by rw [w1.1 k g h2 (by omega), b1 k g h1 (by omega), a5 k g (by omega)], by rw [w1.2, b4]⟩
    -- the new signs
    have lp2 : ∀ T4, ((∀ k g, k ≠ 713 → ¬ (k = 621 ∧ g = 128) → T4.1 k g = T2.1 k g) ∧ T4.2 = T2.2) → T4.1 621 128 = s + r → (∀ j : Nat, T4.1 713 j = if s ≤ (j : Int) ∧ (j : Int) < s + r then T.1 708 (200 * b + (f + (j - s)).toNat) else T.1 713 j) → ∃ T1, jl_343_163 Q (b : Int) f (f + r) fr i isD Q (s + r) 0 T4 = ev_bd (jm_341 Q (b : Int) f (f + r) (s + r) i T1) (fun _ s' => some ((), s')) ∧ T1.1 621 125 = c + 1 ∧ T1.1 621 126 = T.1 621 126 + 1 ∧ T1.1 621 128 = s + r + i ∧ T1.1 621 131 = (if u < T.1 621 131 then u else T.1 621 131) ∧ (∀ j : Nat, T1.1 712 j = if (j : Int) = c then P else T.1 712 j) ∧ (∀ j : Nat, T1.1 713 j = if s ≤ (j : Int) ∧ (j : Int) < s + r then T.1 708 (200 * b + (f + (j - s)).toNat) else if s + r ≤ (j : Int) ∧ (j : Int) < s + r + i then y (j - (s + r)).toNat else T.1 713 j) ∧ er_f T T1 := fun T4 w1 w2 w3 => by
      refine lq1 (l := fun q x => jl_343_163 Q (b : Int) f (f + r) fr i isD q (s + r) x) (b := fun K x => jb_343_163 Q (b : Int) f (f + r) fr i isD (fun _ => K) (s + r) x) (fun q => ?_) (fun m x T3 => x = i - m ∧ 0 ≤ x ∧ ((∀ k g, k ≠ 713 → ¬ (k = 621 ∧ g = 128) → T3.1 k g = T2.1 k g) ∧ T3.2 = T2.2) ∧ T3.1 621 128 = s + r + x ∧ ∀ j : Nat, T3.1 713 j = if s ≤ (j : Int) ∧ (j : Int) < s + r then T.1 708 (200 * b + (f + (j - s)).toNat) else if s + r ≤ (j : Int) ∧ (j : Int) < s + r + x then y (j - (s + r)).toNat else T.1 713 j) (fun R => ∃ T1, R = ev_bd (jm_341 Q (b : Int) f (f + r) (s + r) i T1) (fun _ s' => some ((), s')) ∧ T1.1 621 125 = c + 1 ∧ T1.1 621 126 = T.1 621 126 + 1 ∧ T1.1 621 128 = s + r + i ∧ T1.1 621 131 = (if u < T.1 621 131 then u else T.1 621 131) ∧ (∀ j : Nat, T1.1 712 j = if (j : Int) = c then P else T.1 712 j) ∧ (∀ j : Nat, T1.1 713 j = if s ≤ (j : Int) ∧ (j : Int) < s + r then T.1 708 (200 * b + (f + (j - s)).toNat) else if s + r ≤ (j : Int) ∧ (j : Int) < s + r + i then y (j - (s + r)).toNat else T.1 713 j) ∧ er_f T T1) ?_ Q i.toNat 0 T4 (by omega) ⟨by omega, by omega, w1, by omega, fun j => by rw [w3]; by_cases e : s ≤ (j : Int) ∧ (j : Int) < s + r; (rw [if_pos e, if_pos e]); (rw [if_neg e, if_neg e, if_neg (by omega)])⟩
      · rfl
      · rintro m x T3 ⟨x1, x2, x3, x4, x5⟩
        by_cases hx : i ≤ x
        · refine Or.inl ⟨_, ⟨T3, rfl, inv 0 T3 x3 (by omega) rfl (fun j => by rw [x5, show x = i from by omega])⟩, fun K => ?_⟩
          show jb_343_163 Q (b : Int) f (f + r) fr i isD (fun _ => K) (s + r) x T3 = _
          unfold jb_343_163
          rw [if_pos hx]
        · have hyx := hy x.toNat (by omega)
          refine Or.inr ⟨m - 1, x + 1, ev_pI (ev_pI T3 713 (s + r + x).toNat (y x.toNat)) 621 128 (s + r + x + 1), by omega, ⟨by omega, by omega, ⟨fun k g h1 h2 => by rw [sp_pI1, if_neg h2, rd_nk h1, x3.1 k g h1 h2], x3.2⟩, by rw [rd_eq]; omega, fun j => ?_⟩, fun K => ?_⟩
          · rw [rd_nk (by omega), sp_pI1, x5]
            by_cases e : j = (s + r + x).toNat
            · rw [if_pos ⟨rfl, e⟩, if_neg (by omega), if_pos (by omega), show (j : Int) - (s + r) = x from by omega]
            · rw [if_neg (by omega)]
              by_cases e1 : s ≤ (j : Int) ∧ (j : Int) < s + r
              · rw [if_pos e1, if_pos e1]
              · rw [if_neg e1, if_neg e1]
                by_cases e2 : s + r ≤ (j : Int) ∧ (j : Int) < s + r + x
                · rw [if_pos e2, if_pos (by omega)]
                · rw [if_neg e2, if_neg (by omega)]
          · show jb_343_163 Q (b : Int) f (f + r) fr i isD (fun _ => K) (s + r) x T3 = _
            unfold jb_343_163
            rw [if_neg hx, sp_jn]
            have w := sp_342 (Q := Q) hyx x4 (by omega)
            rcases hD with ⟨d1, d2, d3⟩ | ⟨d1, d2, d3⟩
            · have e := d3 x.toNat (by omega)
              rw [show fr + ((x.toNat : Nat) : Int) = fr + x from by omega] at e
              rw [if_pos d1, sp_ck (by omega), sp_if (by rw [l702]; omega), sp_b, x3.1 702 _ (by omega) (by omega), b1 702 _ (by omega) (by omega), a5 702 _ (by omega), e]
              dsimp only
              rw [w, sp_bd, sp_ck (by omega)]
            · have e := d3 x.toNat (by omega)
              rw [if_neg (by omega), sp_if (by rw [l622]; omega), sp_b, x3.1 622 _ (by omega) (by omega), b1 622 _ (by omega) (by omega), a5 622 _ (by omega), e]
              dsimp only
              rw [w, sp_bd, sp_ck (by omega)]
    -- the signs that go
    refine lq1 (l := jl_343_125 Q (b : Int) f (f + r) fr i isD) (b := jb_343_125 Q (b : Int) f (f + r) fr i isD) (fun _ => rfl) (fun m x T3 => x = f + r - m ∧ f ≤ x ∧ ((∀ k g, k ≠ 713 → ¬ (k = 621 ∧ g = 128) → T3.1 k g = T2.1 k g) ∧ T3.2 = T2.2) ∧ T3.1 621 128 = s + (x - f) ∧ ∀ j : Nat, T3.1 713 j = if s ≤ (j : Int) ∧ (j : Int) < s + (x - f) then T.1 708 (200 * b + (f + (j - s)).toNat) else T.1 713 j) (fun R => ∃ T1, R = ev_bd (jm_341 Q (b : Int) f (f + r) (s + r) i T1) (fun _ s' => some ((), s')) ∧ T1.1 621 125 = c + 1 ∧ T1.1 621 126 = T.1 621 126 + 1 ∧ T1.1 621 128 = s + r + i ∧ T1.1 621 131 = (if u < T.1 621 131 then u else T.1 621 131) ∧ (∀ j : Nat, T1.1 712 j = if (j : Int) = c then P else T.1 712 j) ∧ (∀ j : Nat, T1.1 713 j = if s ≤ (j : Int) ∧ (j : Int) < s + r then T.1 708 (200 * b + (f + (j - s)).toNat) else if s + r ≤ (j : Int) ∧ (j : Int) < s + r + i then y (j - (s + r)).toNat else T.1 713 j) ∧ er_f T T1) ?_ Q r.toNat f T2 (by omega) ⟨by omega, by omega, ⟨fun _ _ _ _ => rfl, rfl⟩, by rw [b1 621 128 (by omega) (by omega), a3]; omega, fun j => by rw [if_neg (by omega), b1 713 j (by omega) (by omega), a5 713 j (by omega)]⟩
    rintro m x T3 ⟨x1, x2, x3, x4, x5⟩
    by_cases hx : f + r ≤ x
    · have h4 : T3.1 621 128 = s + r := by omega
      refine Or.inl ⟨_, lp2 T3 x3 h4 (fun j => by rw [x5, show x - f = r from by omega]), fun K => ?_⟩
      unfold jb_343_125
      rw [if_pos hx, sp_b, h4]
    · have hyx := hch x.toNat (by omega)
      refine Or.inr ⟨m - 1, x + 1, ev_pI (ev_pI T3 713 (s + (x - f)).toNat (T.1 708 (200 * b + x.toNat))) 621 128 (s + (x - f) + 1), by omega, ⟨by omega, by omega, ⟨fun k g h1 h2 => by rw [sp_pI1, if_neg h2, rd_nk h1, x3.1 k g h1 h2], x3.2⟩, by rw [rd_eq]; omega, fun j => ?_⟩, fun K => ?_⟩
      · rw [rd_nk (by omega), sp_pI1, x5]
        by_cases e : j = (s + (x - f)).toNat
        · rw [if_pos ⟨rfl, e⟩, if_pos (by omega), show f + ((j : Int) - s) = x from by omega]
        · rw [if_neg (by omega)]
          by_cases e2 : s ≤ (j : Int) ∧ (j : Int) < s + (x - f)
          · rw [if_pos e2, if_pos (by omega)]
          · rw [if_neg e2, if_neg (by omega)]
      · unfold jb_343_125
        have w := sp_342 (Q := Q) hyx x4 (by omega)
        rw [if_neg hx, sp_ck (by omega), sp_ck (by omega), sp_if (by rw [sp_aln708]; omega), sp_b, show (200 * (b : Int) + x).toNat = 200 * b + x.toNat from by omega, x3.1 708 _ (by omega) (by omega), b1 708 _ (by omega) (by omega), a5 708 _ (by omega), w, sp_bd, sp_ck (by omega)]
  · by_cases h : T.1 621 131 ≤ u
    · obtain ⟨k1, k2⟩ := hk1 h
      refine ⟨T, ⟨k1, rfl, k2, by rw [if_neg (by omega)], fun _ _ _ => rfl, rfl⟩, fun K => ?_⟩
      rw [hu, if_pos h]
    · obtain ⟨k1, k2⟩ := hk2 (by omega)
      refine ⟨ev_pI (ev_pI (ev_pI T 621 131 u) 621 125 c) 621 128 s, ⟨by rw [rd_nf (by omega), rd_eq], by rw [rd_nf (by omega), rd_nf (by omega), rd_nf (by omega)], rd_eq, by rw [rd_nf (by omega), rd_nf (by omega), rd_eq, if_pos (by omega)], fun k g h1 => by rw [sp_pI1, if_neg (by omega), sp_pI1, if_neg (by omega), sp_pI1, if_neg (by omega)], rfl⟩, fun K => ?_⟩
      rw [hu, if_neg h, sp_b, sp_b, sp_b, rd_nf (by omega), hu, sp_jn]
      unfold sp_bs at k1 k2
      by_cases h0 : u = 0
      · rw [if_pos h0] at k1 k2
        rw [if_neg (fun z => z h0)]
        dsimp only
        rw [sp_b, sp_b, rd_nf (by omega), rd_nf (by omega), hu, sp_jn, if_neg (fun z => z h0)]
        dsimp only
        rw [sp_b, ← k1, ← k2]
      · rw [if_neg h0] at k1 k2
        rw [if_pos h0, sp_b, sp_ck (by omega), sp_if (by rw [l714]; omega), sp_b, rd_nk (by omega), k1]
        dsimp only
        rw [sp_b, sp_b, rd_nf (by omega), rd_nf (by omega), hu, sp_jn, if_pos h0, sp_b, sp_ck (by omega), sp_if (by rw [l715]; omega), sp_b, rd_nk (by omega), rd_nk (by omega), k2]
        dsimp only
        rw [sp_b]
