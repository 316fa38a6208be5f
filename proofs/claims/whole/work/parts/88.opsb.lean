/-! ONE EDIT, the class's and the reference's, in two states: the class's cells from S, the reference's from T -/
theorem lg_r_c {a i : Nat} {S T : ev_St} (hW : lg_W S) (ha : a = 259 ∨ a = 260) (h1 : T.2.2.1 = S.2.2.1) (h2 : ∀ k g, 724 ≤ k → T.1 k g = S.1 k g) : lg_r a T i = lg_r a S i := by
  unfold lg_r
  rw [h1]
  by_cases h : S.2.2.1 a (i / 1024) = 0
  · rw [if_pos h, if_pos h]
  · rw [if_neg h, if_neg h, h2 _ _ (by have := hW.2.1 a _ ha h; omega)]
theorem lg_W_c {S T : ev_St} (hW : lg_W S) (h1 : T.2.2.1 = S.2.2.1) (h2 : ev_sN T = ev_sN S) : lg_W T := by
  obtain ⟨w1, w2, w3, w4⟩ := hW
  unfold lg_W
  rw [h1, h2, lg_n_c (a := 259) (S := T) (T := S) (fun i => by rw [h1]), lg_n_c (a := 260) (S := T) (T := S) (fun i => by rw [h1])]
  exact ⟨w1, w2, w3, w4⟩
theorem sp_aln262 : ev_aln 262 = 160 ∧ ev_aln 702 = 200 ∧ ev_aln 622 = 120 ∧ ev_aln 712 = 420000 ∧ ev_aln 713 = 840000 ∧ ev_aln 714 = 2000 ∧ ev_aln 715 = 2000 ∧ ev_aln 261 = 1024 := by decide +kernel
/-- the class's -/
theorem pf_C {Q b : Nat} {a0 f r i a3 : Int} {S : ev_St} (hQ : 600 ≤ Q) (hW : lg_W S) (hb : b < 3) (h0 : 0 ≤ a0 ∧ a0 ≤ 2147483647) (h1 : a0 % 4 = b) (h2 : a0 / 4 % 256 = f) (hf : 0 ≤ f) (hr : 0 ≤ r) (hi : 0 ≤ i) (hl : 0 ≤ S.1 (263 + 2 * b) 1 ∧ S.1 (263 + 2 * b) 1 ≤ 160) (hfr : f + r ≤ S.1 (263 + 2 * b) 1) (hn : S.1 (263 + 2 * b) 1 - r + i ≤ 160) (h3 : 0 ≤ a3 ∧ a3 + i ≤ 1048576) (hm : 0 ≤ S.1 254 4 ∧ S.1 254 4 ≤ 12) (hp : ∀ g : Nat, (g : Int) < S.1 254 4 → 0 ≤ S.1 258 g ∧ S.1 258 g ≤ 160) : ∃ S', jm_9 Q a0 r i a3 S = some ((), S') ∧ S'.1 (263 + 2 * b) 1 = S.1 (263 + 2 * b) 1 + (i - r) ∧ (∀ g : Nat, (g : Int) < S.1 (263 + 2 * b) 1 + (i - r) → S'.1 (263 + 2 * b + 1) g = if (g : Int) < f then S.1 (263 + 2 * b + 1) g else if (g : Int) < f + i then lg_r 260 S (a3 + ((g : Int) - f)).toNat else S.1 (263 + 2 * b + 1) ((g : Int) - i + r).toNat) ∧ (∀ g : Nat, (g : Int) < S.1 254 4 → S'.1 258 g = if S.1 256 g = (b : Int) then sp_mv f (f + r) i (S.1 257 g) (S.1 258 g) else S.1 258 g) ∧ (∀ c g, c ≠ 258 → c ≠ 262 → c ≠ 263 + 2 * b + 1 → ¬ (c = 263 + 2 * b ∧ g = 1) → S'.1 c g = S.1 c g) ∧ S'.2 = S.2 := by
  obtain ⟨l1, _⟩ := sp_aln262
  have e1 : ev_irem a0 4 = (b : Int) := by rw [sp_rem (by omega) (by omega), h1]
  have e2 : ev_irem (ev_idiv a0 4) 256 = f := by rw [sp_div (by omega) (by omega), sp_rem (by omega) (by omega), h2]
  have lp : ∃ S1, (∀ g : Nat, (g : Int) < i → S1.1 262 g = lg_r 260 S (a3 + g).toNat) ∧ (∀ c g, c ≠ 262 → S1.1 c g = S.1 c g) ∧ S1.2 = S.2 ∧ jl_9_40 Q r i a3 (b : Int) f (263 + 2 * b + 1) Q 0 S = ev_bd (jm_154 Q (263 + 2 * b) f r (262 + 1) 0 i S1) fun _ s21 => ev_ck (f + r) fun x22 => ev_bd (jm_10 Q (b : Int) f x22 i s21) fun _ s23 => some ((), s23) := by
    refine lq1 (l := jl_9_40 Q r i a3 (b : Int) f (263 + 2 * b + 1)) (b := jb_9_40 Q r i a3 (b : Int) f (263 + 2 * b + 1)) (fun _ => rfl) (fun m x S1 => x = i - m ∧ 0 ≤ x ∧ (∀ g : Nat, (g : Int) < x → S1.1 262 g = lg_r 260 S (a3 + g).toNat) ∧ (∀ c g, c ≠ 262 → S1.1 c g = S.1 c g) ∧ S1.2 = S.2) (fun R => ∃ S1, (∀ g : Nat, (g : Int) < i → S1.1 262 g = lg_r 260 S (a3 + g).toNat) ∧ (∀ c g, c ≠ 262 → S1.1 c g = S.1 c g) ∧ S1.2 = S.2 ∧ R = ev_bd (jm_154 Q (263 + 2 * b) f r (262 + 1) 0 i S1) fun _ s21 => ev_ck (f + r) fun x22 => ev_bd (jm_10 Q (b : Int) f x22 i s21) fun _ s23 => some ((), s23)) ?_ Q i.toNat 0 S (by omega) ⟨by omega, by omega, fun g hg => by omega, fun _ _ _ => rfl, rfl⟩
    rintro m x S1 ⟨x1, x2, x3, x4, x5⟩
    by_cases hx : i ≤ x
    · refine Or.inl ⟨_, ⟨S1, fun g hg => x3 g (by omega), x4, x5, rfl⟩, fun K => ?_⟩
      unfold jb_9_40
      rw [if_pos hx]
      rfl
    · refine Or.inr ⟨m - 1, x + 1, ev_pI S1 262 x.toNat (lg_r 260 S1 (a3 + x).toNat), by omega, ⟨by omega, by omega, fun g hg => ?_, fun c g hc => by rw [rd_nk hc, x4 c g hc], x5⟩, fun K => ?_⟩
      · by_cases hg2 : g = x.toNat
        · rw [hg2, rd_eq, lg_r_c hW (Or.inr rfl) (by rw [x5]) (fun k g hk => x4 k g (by omega)), show (a3 + x).toNat = (a3 + ((x.toNat : Nat) : Int)).toNat from by omega]
        · rw [rd_nf hg2, x3 g (by omega)]
      · unfold jb_9_40
        rw [if_neg hx, sp_ck (by omega), sp_16 (by omega), sp_bd, sp_if (by rw [l1]; omega), sp_b, sp_ck (by omega)]
  obtain ⟨S1, q1, q2, q3, q4⟩ := lp
  have k0 : ∀ c, S1.1 (263 + 2 * b) c = S.1 (263 + 2 * b) c := fun c => q2 _ _ (by omega)
  have k2 : ∀ c, S1.1 (263 + 2 * b + 1) c = S.1 (263 + 2 * b + 1) c := fun c => q2 _ _ (by omega)
  have s1 := sp_154 (Q := Q) (k := 263 + 2 * b) (s := 262) (p := f) (r := r) (o := 0) (i := i) (S := S1) (sp_buf b hb) (by rw [k0]; exact hl) hf hr (by rw [k0]; exact hfr) hi (by rw [k0]; exact hn) (by omega) (by rw [l1]; omega) (by rw [l1]; omega)
  have s2 := sp_spl_at (k := 263 + 2 * b) (s := 262) (p := f) (r := r) (o := 0) (i := i) (S := S1) hf hr (by rw [k0]; exact hfr) hi (by omega) (by omega)
  have s3 := sp_spl_n (k := 263 + 2 * b) (s := 262) (p := f) (r := r) (o := 0) (i := i) (S := S1)
  have s4 := fun (c g : Nat) (h1 : c ≠ 263 + 2 * b + 1) (h2 : ¬ (c = 263 + 2 * b ∧ g = 1)) => sp_spl_f (k := 263 + 2 * b) (s := 262) (p := f) (r := r) (o := 0) (i := i) (S := S1) (b := c) (g := g) h1 h2
  have s5 : (sp_spl (263 + 2 * b) f r 262 0 i S1).2 = S.2 := by
    unfold sp_spl
    exact q3
  generalize sp_spl (263 + 2 * b) f r 262 0 i S1 = S2 at s1 s2 s3 s4 s5
  have c4 : S2.1 254 4 = S.1 254 4 := by rw [s4 254 4 (by omega) (by omega), q2 254 4 (by omega)]
  have c6 : ∀ c g, 256 ≤ c ∧ c ≤ 258 → S2.1 c g = S.1 c g := fun c g hc => by rw [s4 c g (by omega) (by omega), q2 c g (by omega)]
  obtain ⟨S', r1, r2, r3, r4⟩ := sp_10l (Q := Q) (b := (b : Int)) (p := f) (e := f + r) (i := i) (by omega) (S.1 254 4).toNat Q 0 S2 (by omega) (by omega) (by omega) (fun g _ hg => by
    rw [c4] at hg
    rw [c6 258 g (by omega)]
    exact hp g hg)
  refine ⟨S', ?_, ?_, fun g hg => ?_, fun g hg => ?_, fun c g h1 h2 h3 h4 => ?_, by rw [r4, s5]⟩
  · have e3 : (if 0 ≤ (b : Int) ∧ (b : Int) < 3 then 263 + 2 * (b : Int).toNat + 1 else 0) = 263 + 2 * b + 1 := by
      rw [if_pos ⟨by omega, by omega⟩, Int.toNat_natCast]
    unfold jm_9
    rw [e1, sp_if (by decide), sp_b, sp_if (by decide), sp_b, sp_if (by decide), e2, sp_b, sp_1, sp_bd, e3, if_neg (by omega), sp_b, l1, if_pos (by omega), q4, s1, sp_bd, sp_ck (by omega)]
    unfold jm_10
    rw [show ((0 : Nat) : Int) = 0 from rfl] at r1
    rw [r1, sp_bd]
  · rw [r3 _ _ (by omega), s3, k0]
  · rw [r3 _ _ (by omega), s2 g (by rw [k0]; exact hg), k2, k2]
    by_cases g1 : (g : Int) < f
    · rw [if_pos g1, if_pos g1]
    · rw [if_neg g1, if_neg g1]
      by_cases g2 : (g : Int) < f + i
      · rw [if_pos g2, if_pos g2, q1 _ (by omega), show a3 + (((0 + ((g : Int) - f)).toNat : Nat) : Int) = a3 + ((g : Int) - f) from by omega]
      · rw [if_neg g2, if_neg g2]
  · rw [r2 g (by omega) (by rw [c4]; exact hg), c6 256 g (by omega), c6 257 g (by omega), c6 258 g (by omega)]
  · rw [r3 c g (fun q => h1 q.1), s4 c g h3 h4, q2 c g h2]
/-- the reference's -/
theorem pf_R {Q b : Nat} {p r s3 i n : Int} {T : ev_St} (hQ : 600 ≤ Q) (hb : b < 3) (hp : 0 ≤ p) (hr : 0 ≤ r) (hi : 0 ≤ i) (en : T.1 707 b = n) (hn : n ≤ 160) (hpr : p + r ≤ n) (hn2 : n - r + i ≤ 160) (hs : 0 ≤ s3 ∧ s3 + i ≤ 840000) (hm : 0 ≤ T.1 621 121 ∧ T.1 621 121 ≤ 12) (hq : ∀ g : Nat, (g : Int) < T.1 621 121 → 0 ≤ T.1 710 g ∧ T.1 710 g ≤ 160) : ∃ T', jm_341 Q (b : Int) p (p + r) s3 i T = some ((), T') ∧ T'.1 707 b = n + (i - r) ∧ (∀ g : Nat, (g : Int) < n + (i - r) → T'.1 708 (200 * b + g) = if (g : Int) < p then T.1 708 (200 * b + g) else if (g : Int) < p + i then T.1 713 (s3 + ((g : Int) - p)).toNat else T.1 708 (200 * b + ((g : Int) - i + r).toNat)) ∧ (∀ b' : Nat, b' < 3 → b' ≠ b → T'.1 707 b' = T.1 707 b' ∧ ∀ g : Nat, g < 200 → T'.1 708 (200 * b' + g) = T.1 708 (200 * b' + g)) ∧ (∀ g : Nat, (g : Int) < T.1 621 121 → T'.1 710 g = if T.1 709 g = (b : Int) then sp_mv p (p + r) i (T.1 711 g) (T.1 710 g) else T.1 710 g) ∧ (∀ c g, c ≠ 707 → c ≠ 708 → c ≠ 710 → T'.1 c g = T.1 c g) ∧ T'.2 = T.2 := by
  obtain ⟨_, _, _, _, l13, _⟩ := sp_aln262
  have hd : p + r - p = r := by omega
  have key : ∃ T1, jm_341 Q (b : Int) p (p + r) s3 i T = jl_341_119 Q (b : Int) p (p + r) s3 i (i - r) n Q 0 T1 ∧ (∀ g : Nat, (g : Int) < p → T1.1 708 (200 * b + g) = T.1 708 (200 * b + g)) ∧ (∀ g : Nat, p + i ≤ (g : Int) → (g : Int) < n + (i - r) → T1.1 708 (200 * b + g) = T.1 708 (200 * b + ((g : Int) - i + r).toNat)) ∧ (∀ b' g : Nat, b' < 3 → b' ≠ b → g < 200 → T1.1 708 (200 * b' + g) = T.1 708 (200 * b' + g)) ∧ (∀ c g, c ≠ 708 → T1.1 c g = T.1 c g) ∧ T1.2 = T.2 := by
    unfold jm_341
    rw [sp_ck (by omega), hd, sp_ck (by omega), sp_if (by rw [sp_aln707]; omega), sp_b, sp_jn, Int.toNat_natCast, en]
    by_cases h : i - r ≤ 0
    · rw [if_pos h]
      obtain ⟨T1, k1, k2, k3, k4⟩ := sp_341d (Q := Q) (b := (b : Int)) (p := p) (e := p + r) (s3 := s3) (i := i) (d := i - r) (n := n) (K := fun x4 x5 s15 => jl_341_119 Q (b : Int) p (p + r) s3 i x4 x5 Q 0 s15) (by omega) h (by omega) (n - (p + r)).toNat Q (p + r) T (by omega) (by omega) (by omega)
      refine ⟨T1, k1, fun g hg => ?_, fun g g1 g2 => ?_, fun b' g b1 b2 hg => ?_, k3, k4⟩
      · rw [k2, if_neg (by omega)]
      · rw [k2, if_pos (by omega), show (((200 * b + g : Nat) : Int) - (i - r)).toNat = 200 * b + ((g : Int) - i + r).toNat from by omega]
      · rw [k2, if_neg (by omega)]
    · rw [if_neg h, sp_ck (by omega)]
      obtain ⟨T1, k1, k2, k3, k4⟩ := sp_341u (Q := Q) (b := (b : Int)) (p := p) (e := p + r) (s3 := s3) (i := i) (d := i - r) (n := n) (K := fun x4 x5 s15 => jl_341_119 Q (b : Int) p (p + r) s3 i x4 x5 Q 0 s15) (by omega) (by omega) (by omega) (n - (p + r)).toNat Q (n - 1) T (by omega) (by omega) (by omega)
      refine ⟨T1, k1, fun g hg => ?_, fun g g1 g2 => ?_, fun b' g b1 b2 hg => ?_, k3, k4⟩
      · rw [k2, if_neg (by omega)]
      · rw [k2, if_pos (by omega), show (((200 * b + g : Nat) : Int) - (i - r)).toNat = 200 * b + ((g : Int) - i + r).toNat from by omega]
      · rw [k2, if_neg (by omega)]
  obtain ⟨T1, k1, k2, k3, k4, k5, k6⟩ := key
  obtain ⟨T2, m1, m2, m3, m4⟩ := sp_341n (Q := Q) (b := (b : Int)) (p := p) (e := p + r) (s3 := s3) (i := i) (d := i - r) (n := n) (by omega) (by omega) (by rw [l13]; omega) (by omega) i.toNat Q 0 T1 (by omega) (by omega) (by omega)
  have n1 : ∀ c g, c ≠ 707 → c ≠ 708 → (ev_pI T2 707 (b : Int).toNat (n + (i - r))).1 c g = T.1 c g := fun c g h1 h2 => by rw [rd_nk h1, m3 c g h2, k5 c g h2]
  obtain ⟨T3, r1, r2, r3, r4⟩ := sp_341m (Q := Q) (b := (b : Int)) (p := p) (e := p + r) (i := i) (by omega) (T.1 621 121).toNat Q 0 (ev_pI T2 707 (b : Int).toNat (n + (i - r))) (by omega) (by rw [n1 621 121 (by omega) (by omega)]; omega) (by rw [n1 621 121 (by omega) (by omega)]; omega) (fun g _ hg => by
    rw [n1 621 121 (by omega) (by omega)] at hg
    rw [n1 710 g (by omega) (by omega)]
    exact hq g hg)
  rw [show p + r - p = r from by omega] at r1
  refine ⟨T3, ?_, ?_, fun g hg => ?_, fun b' b1 b2 => ⟨?_, fun g hg => ?_⟩, fun g hg => ?_, fun c g h1 h2 h3 => ?_, ?_⟩
  · rw [k1, m1]
    exact r1
  · rw [r3 _ _ (by omega), Int.toNat_natCast, rd_eq]
  · rw [r3 _ _ (by omega), rd_nk (by omega), m2]
    by_cases g1 : (g : Int) < p
    · rw [if_neg (by omega), if_pos g1, k2 g g1]
    · rw [if_neg g1]
      by_cases g2 : (g : Int) < p + i
      · rw [if_pos (by omega), if_pos g2, k5 713 _ (by omega), show (s3 + (((200 * b + g : Nat) : Int) - (200 * (b : Int) + p))).toNat = (s3 + ((g : Int) - p)).toNat from by omega]
      · rw [if_neg (by omega), if_neg g2, k3 g (by omega) hg]
  · rw [r3 _ _ (by omega), rd_nf (by omega), m3 _ _ (by omega), k5 _ _ (by omega)]
  · rw [r3 _ _ (by omega), rd_nk (by omega), m2, if_neg (by omega), k4 b' g b1 b2 hg]
  · rw [r2 g (by omega) (by rw [n1 621 121 (by omega) (by omega)]; exact hg), n1 709 g (by omega) (by omega), n1 710 g (by omega) (by omega), n1 711 g (by omega) (by omega)]
  · rw [r3 c g (fun q => h3 q.1), n1 c g h1 h2]
  · rw [r4]
    show T2.2 = T.2
    rw [m4, k6]
/-- texts and marks: the class's from S, the reference's from T -/
def t2_B (S T : ev_St) : Prop := ∀ b : Nat, b < 3 → 0 ≤ S.1 (263 + 2 * b) 1 ∧ S.1 (263 + 2 * b) 1 ≤ 160 ∧ T.1 707 b = S.1 (263 + 2 * b) 1 ∧ ∀ g : Nat, (g : Int) < S.1 (263 + 2 * b) 1 → T.1 708 (200 * b + g) = S.1 (263 + 2 * b + 1) g ∧ 0 ≤ S.1 (263 + 2 * b + 1) g ∧ S.1 (263 + 2 * b + 1) g < 127
def t2_M (S T : ev_St) : Prop := 0 ≤ S.1 254 4 ∧ S.1 254 4 ≤ 12 ∧ T.1 621 121 = S.1 254 4 ∧ ∀ g : Nat, (g : Int) < S.1 254 4 → T.1 709 g = S.1 256 g ∧ T.1 711 g = S.1 257 g ∧ T.1 710 g = S.1 258 g ∧ (0 ≤ S.1 256 g ∧ S.1 256 g < 3) ∧ (S.1 257 g = 0 ∨ S.1 257 g = 1) ∧ 0 ≤ S.1 258 g ∧ S.1 258 g ≤ S.1 (263 + 2 * (S.1 256 g).toNat) 1
theorem t2_B_i {S : ev_St} : sp_BR S ↔ t2_B S S := Iff.rfl
theorem t2_M_i {S : ev_St} : sp_MR S ↔ t2_M S S := Iff.rfl
theorem sp_mv_le {p r i k v n : Int} (hp : 0 ≤ p) (hr : 0 ≤ r) (hi : 0 ≤ i) (hpr : p + r ≤ n) (hv : 0 ≤ v ∧ v ≤ n) : 0 ≤ sp_mv p (p + r) i k v ∧ sp_mv p (p + r) i k v ≤ n + (i - r) := by
  unfold sp_mv
  split
  · omega
  · split
    · split <;> omega
    · omega
/-- one edit on both sides -/
theorem t2_pf {Q b : Nat} {a0 f r i a3 s3 : Int} {S T : ev_St} (hQ : 600 ≤ Q) (hW : lg_W S) (hB : t2_B S T) (hM : t2_M S T) (hb : b < 3) (h0 : 0 ≤ a0 ∧ a0 ≤ 2147483647) (h1 : a0 % 4 = b) (h2 : a0 / 4 % 256 = f) (hf : 0 ≤ f) (hr : 0 ≤ r) (hi : 0 ≤ i) (hfr : f + r ≤ S.1 (263 + 2 * b) 1) (hn : S.1 (263 + 2 * b) 1 - r + i ≤ 160) (h3 : 0 ≤ a3 ∧ a3 + i ≤ 1048576) (hs : 0 ≤ s3 ∧ s3 + i ≤ 840000) (he : ∀ g : Nat, (g : Int) < i → T.1 713 (s3 + g).toNat = lg_r 260 S (a3 + g).toNat ∧ 0 ≤ lg_r 260 S (a3 + g).toNat ∧ lg_r 260 S (a3 + g).toNat < 127) : ∃ S' T', jm_9 Q a0 r i a3 S = some ((), S') ∧ jm_341 Q (b : Int) f (f + r) s3 i T = some ((), T') ∧ t2_B S' T' ∧ t2_M S' T' ∧ (∀ b' : Nat, b' < 3 → S'.1 (263 + 2 * b') 1 = if b' = b then S.1 (263 + 2 * b) 1 + (i - r) else S.1 (263 + 2 * b') 1) ∧ (∀ c g, c ≠ 258 → c ≠ 262 → ¬ (264 ≤ c ∧ c ≤ 268) → ¬ (c = 263 ∧ g = 1) → S'.1 c g = S.1 c g) ∧ S'.2 = S.2 ∧ (∀ c g, c ≠ 707 → c ≠ 708 → c ≠ 710 → T'.1 c g = T.1 c g) ∧ T'.2 = T.2 := by
  obtain ⟨b1, b2, b3, b4⟩ := hB b hb
  obtain ⟨m1, m2, m3, m4⟩ := hM
  have m5 : ∀ g : Nat, (g : Int) < S.1 254 4 → 0 ≤ S.1 258 g ∧ S.1 258 g ≤ 160 := fun g hg => by
    obtain ⟨_, _, _, w1, _, w2, w3⟩ := m4 g hg
    have := (hB (S.1 256 g).toNat (by omega)).2.1
    omega
  obtain ⟨S', p1, p2, p3, p4, p5, p6⟩ := pf_C (Q := Q) hQ hW hb h0 h1 h2 hf hr hi ⟨b1, b2⟩ hfr hn h3 ⟨m1, m2⟩ m5
  obtain ⟨T', q1, q2, q3, q4, q5, q6, q7⟩ := pf_R (Q := Q) (T := T) (s3 := s3) hQ hb hf hr hi b3 b2 hfr hn hs ⟨by omega, by omega⟩ (fun g hg => by
    rw [m3] at hg
    rw [(m4 g hg).2.2.1]
    exact m5 g hg)
  have len : ∀ b' : Nat, b' < 3 → S'.1 (263 + 2 * b') 1 = if b' = b then S.1 (263 + 2 * b) 1 + (i - r) else S.1 (263 + 2 * b') 1 := fun b' hb' => by
    by_cases e : b' = b
    · rw [if_pos e, e, p2]
    · rw [if_neg e, p5 _ _ (by omega) (by omega) (by omega) (by omega)]
  refine ⟨S', T', p1, q1, fun b' hb' => ?_, ?_, len, fun c g c1 c2 c3 c4 => p5 c g c1 c2 (by omega) (by omega), p6, q6, q7⟩
  · by_cases e : b' = b
    · subst e
      rw [p2]
      refine ⟨by omega, by omega, q2, fun g hg => ?_⟩
      rw [p3 g hg, q3 g hg]
      by_cases g1 : (g : Int) < f
      · rw [if_pos g1, if_pos g1]
        exact b4 g (by omega)
      · rw [if_neg g1, if_neg g1]
        by_cases g2 : (g : Int) < f + i
        · rw [if_pos g2, if_pos g2]
          have := he ((g : Int) - f).toNat (by omega)
          rw [show ((((g : Int) - f).toNat : Nat) : Int) = (g : Int) - f from by omega] at this
          exact this
        · rw [if_neg g2, if_neg g2]
          exact b4 _ (by omega)
    · obtain ⟨c1, c2, c3, c4⟩ := hB b' hb'
      rw [p5 (263 + 2 * b') 1 (by omega) (by omega) (by omega) (by omega)]
      refine ⟨c1, c2, by rw [(q4 b' hb' e).1, c3], fun g hg => ?_⟩
      rw [(q4 b' hb' e).2 g (by omega), p5 (263 + 2 * b' + 1) g (by omega) (by omega) (by omega) (by omega)]
      exact c4 g hg
  · have e4 : S'.1 254 4 = S.1 254 4 := p5 _ _ (by omega) (by omega) (by omega) (by omega)
    unfold t2_M
    rw [e4]
    refine ⟨m1, m2, by rw [q6 _ _ (by omega) (by omega) (by omega), m3], fun g hg => ?_⟩
    obtain ⟨w1, w2, w3, w4, w5, w6, w7⟩ := m4 g hg
    rw [p5 256 g (by omega) (by omega) (by omega) (by omega), p5 257 g (by omega) (by omega) (by omega) (by omega), q6 709 g (by omega) (by omega) (by omega), q6 711 g (by omega) (by omega) (by omega), p4 g hg, q5 g (by omega), w1, w2, w3, len _ (by omega)]
    refine ⟨rfl, rfl, rfl, w4, w5, ?_⟩
    by_cases e : S.1 256 g = (b : Int)
    · rw [if_pos e, if_pos (by omega)]
      rw [show (S.1 256 g).toNat = b from by omega] at w7
      exact sp_mv_le hf hr hi hfr ⟨w6, w7⟩
    · rw [if_neg e, if_neg (by omega)]
      exact ⟨w6, w7⟩
