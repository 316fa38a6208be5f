/-! the reference's buffers: signs move up, signs move down -/
theorem sp_341u {Q : Nat} {b p e s3 i d n : Int} {K : Int → Int → ev_St → Option ((Unit) × ev_St)} (hb : 0 ≤ b ∧ b < 3) (he : 0 ≤ e ∧ e ≤ 160) (hd : 0 < d) : ∀ (m q : Nat) (x : Int) (S : ev_St), m < q → x = e + m - 1 → x + d < 200 → ∃ S', jl_341_27 Q b p e s3 i d n K q x S = K d n S' ∧ (∀ h : Nat, S'.1 708 h = if 200 * b + e + d ≤ (h : Int) ∧ (h : Int) ≤ 200 * b + x + d then S.1 708 ((h : Int) - d).toNat else S.1 708 h) ∧ (∀ c g, c ≠ 708 → S'.1 c g = S.1 c g) ∧ S'.2 = S.2
  | m, 0, x, S, h, _, _ => by omega
  | 0, q + 1, x, S, h, h1, h2 => by
    refine ⟨S, ?_, fun g => by rw [if_neg (by omega)], fun _ _ _ => rfl, rfl⟩
    show jb_341_27 Q b p e s3 i d n K (jl_341_27 Q b p e s3 i d n K q) x S = _
    unfold jb_341_27
    rw [if_pos (by omega)]
  | m + 1, q + 1, x, S, h, h1, h2 => by
    obtain ⟨S', r1, r2, r3, r4⟩ := sp_341u (Q := Q) (p := p) (s3 := s3) (i := i) (n := n) (K := K) hb he hd m q (x + (-1)) (ev_pI S 708 (200 * b + x + d).toNat (S.1 708 (200 * b + x).toNat)) (by omega) (by omega) (by omega)
    refine ⟨S', ?_, fun g => ?_, fun c g hc => by rw [r3 c g hc, sp_pI1, if_neg (fun z => hc z.1)], r4⟩
    · show jb_341_27 Q b p e s3 i d n K (jl_341_27 Q b p e s3 i d n K q) x S = _
      unfold jb_341_27
      rw [if_neg (by omega), sp_ck (by omega), sp_ck (by omega), sp_ck (by omega), sp_ck (by omega), sp_ck (by omega), sp_if (by rw [sp_aln708]; omega), sp_b, sp_if (by rw [sp_aln708]; omega), sp_b, sp_ck (by omega)]
      exact r1
    · rw [r2 g, sp_pI1, sp_pI1]
      by_cases c1 : (g : Int) = 200 * b + x + d
      · rw [if_neg (by omega), if_pos ⟨rfl, by omega⟩, if_pos (by omega), show (200 * b + x).toNat = ((g : Int) - d).toNat from by omega]
      · by_cases c2 : 200 * b + e + d ≤ (g : Int) ∧ (g : Int) ≤ 200 * b + x + d
        · rw [if_pos (by omega), if_neg (fun z => by omega), if_pos c2]
        · rw [if_neg (by omega), if_neg (fun z => by omega), if_neg c2]
theorem sp_341d {Q : Nat} {b p e s3 i d n : Int} {K : Int → Int → ev_St → Option ((Unit) × ev_St)} (hb : 0 ≤ b ∧ b < 3) (hd : d ≤ 0) (hn : n ≤ 200) : ∀ (m q : Nat) (x : Int) (S : ev_St), m < q → x = n - m → 0 ≤ x + d → ∃ S', jl_341_74 Q b p e s3 i d n K q x S = K d n S' ∧ (∀ h : Nat, S'.1 708 h = if 200 * b + x + d ≤ (h : Int) ∧ (h : Int) < 200 * b + n + d then S.1 708 ((h : Int) - d).toNat else S.1 708 h) ∧ (∀ c g, c ≠ 708 → S'.1 c g = S.1 c g) ∧ S'.2 = S.2
  | m, 0, x, S, h, _, _ => by omega
  | 0, q + 1, x, S, h, h1, h2 => by
    refine ⟨S, ?_, fun g => by rw [if_neg (by omega)], fun _ _ _ => rfl, rfl⟩
    show jb_341_74 Q b p e s3 i d n K (jl_341_74 Q b p e s3 i d n K q) x S = _
    unfold jb_341_74
    rw [if_pos (by omega)]
  | m + 1, q + 1, x, S, h, h1, h2 => by
    obtain ⟨S', r1, r2, r3, r4⟩ := sp_341d (Q := Q) (p := p) (e := e) (s3 := s3) (i := i) (K := K) hb hd hn m q (x + 1) (ev_pI S 708 (200 * b + x + d).toNat (S.1 708 (200 * b + x).toNat)) (by omega) (by omega) (by omega)
    refine ⟨S', ?_, fun g => ?_, fun c g hc => by rw [r3 c g hc, sp_pI1, if_neg (fun z => hc z.1)], r4⟩
    · show jb_341_74 Q b p e s3 i d n K (jl_341_74 Q b p e s3 i d n K q) x S = _
      unfold jb_341_74
      rw [if_neg (by omega), sp_ck (by omega), sp_ck (by omega), sp_ck (by omega), sp_ck (by omega), sp_ck (by omega), sp_if (by rw [sp_aln708]; omega), sp_b, sp_if (by rw [sp_aln708]; omega), sp_b, sp_ck (by omega)]
      exact r1
    · rw [r2 g, sp_pI1, sp_pI1]
      by_cases c1 : (g : Int) = 200 * b + x + d
      · rw [if_neg (by omega), if_pos ⟨rfl, by omega⟩, if_pos (by omega), show (200 * b + x).toNat = ((g : Int) - d).toNat from by omega]
      · by_cases c2 : 200 * b + x + d ≤ (g : Int) ∧ (g : Int) < 200 * b + n + d
        · rw [if_pos (by omega), if_neg (fun z => by omega), if_pos c2]
        · rw [if_neg (by omega), if_neg (fun z => by omega), if_neg c2]
theorem sp_aln713 : ev_aln 713 ≤ 10000000 := by decide +kernel
/-- the new signs, then the size; the marks are next -/
theorem sp_341n {Q : Nat} {b p e s3 i d n : Int} (hb : 0 ≤ b ∧ b < 3) (hp : 0 ≤ p ∧ p + i ≤ 200) (hs : 0 ≤ s3 ∧ s3 + i ≤ (ev_aln 713 : Int)) (hn : -1000 ≤ n + d ∧ n + d ≤ 1000) : ∀ (m q : Nat) (x : Int) (S : ev_St), m < q → x = i - m → 0 ≤ x → ∃ S', jl_341_119 Q b p e s3 i d n q x S = jl_341_171 Q b p e i d Q 0 (ev_pI S' 707 b.toNat (n + d)) ∧ (∀ h : Nat, S'.1 708 h = if 200 * b + p + x ≤ (h : Int) ∧ (h : Int) < 200 * b + p + i then S.1 713 (s3 + ((h : Int) - (200 * b + p))).toNat else S.1 708 h) ∧ (∀ c g, c ≠ 708 → S'.1 c g = S.1 c g) ∧ S'.2 = S.2
  | m, 0, x, S, h, _, _ => by omega
  | 0, q + 1, x, S, h, h1, h2 => by
    refine ⟨S, ?_, fun g => by rw [if_neg (by omega)], fun _ _ _ => rfl, rfl⟩
    show jb_341_119 Q b p e s3 i d n (jl_341_119 Q b p e s3 i d n q) x S = _
    unfold jb_341_119
    rw [if_pos (by omega), sp_ck (by omega), sp_if (by rw [sp_aln707]; omega), sp_b]
  | m + 1, q + 1, x, S, h, h1, h2 => by
    have l := sp_aln713
    obtain ⟨S', r1, r2, r3, r4⟩ := sp_341n (Q := Q) (e := e) (d := d) (n := n) hb hp hs hn m q (x + 1) (ev_pI S 708 (200 * b + p + x).toNat (S.1 713 (s3 + x).toNat)) (by omega) (by omega) (by omega)
    refine ⟨S', ?_, fun g => ?_, fun c g hc => by rw [r3 c g hc, sp_pI1, if_neg (fun z => hc z.1)], r4⟩
    · show jb_341_119 Q b p e s3 i d n (jl_341_119 Q b p e s3 i d n q) x S = _
      unfold jb_341_119
      rw [if_neg (by omega), sp_ck (by omega), sp_ck (by omega), sp_ck (by omega), sp_ck (by omega), sp_if (by omega), sp_b, sp_if (by rw [sp_aln708]; omega), sp_b, sp_ck (by omega)]
      exact r1
    · have y3 : ∀ z, (ev_pI S 708 (200 * b + p + x).toNat (S.1 713 (s3 + x).toNat)).1 713 z = S.1 713 z := fun z => by
        rw [sp_pI1, if_neg (fun w => absurd w.1 (by decide))]
      rw [r2 g, y3, sp_pI1]
      by_cases c1 : (g : Int) = 200 * b + p + x
      · rw [if_neg (by omega), if_pos ⟨rfl, by omega⟩, if_pos (by omega), show (s3 + x).toNat = (s3 + ((g : Int) - (200 * b + p))).toNat from by omega]
      · by_cases c2 : 200 * b + p + x ≤ (g : Int) ∧ (g : Int) < 200 * b + p + i
        · rw [if_pos (by omega), if_pos c2]
        · rw [if_neg (by omega), if_neg (fun z => by omega), if_neg c2]
