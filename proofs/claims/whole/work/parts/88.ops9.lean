/-! the reference's buffers: signs move up, signs move down -/
theorem sp_341u {Q : Nat} {b p e s3 i d n : Int} {K : Int → Int → ev_St → Option ((Unit) × ev_St)} (hb : 0 ≤ b ∧ b < 3) (he : 0 ≤ e ∧ e ≤ 160) (hd : 0 < d) : ∀ (m q : Nat) (x : Int) (S : ev_St), m < q → x = e + m - 1 → x + d < 200 → ∃ S', jl_341_27 Q b p e s3 i d n K q x S = K d n S' ∧ (∀ h : Nat, S'.1 708 h = if 200 * b + e + d ≤ (h : Int) ∧ (h : Int) ≤ 200 * b + x + d then S.1 708 ((h : Int) - d).toNat else S.1 708 h) ∧ (∀ c g, c ≠ 708 → S'.1 c g = S.1 c g) ∧ S'.2 = S.2
  | m, 0, x, S, h, _, _ => by omega
  | 0, q + 1, x, S, h, h1, h2 => by
    refine ⟨S, ?_, fun g => by rw [if_neg (by omega)], fun _ _ _ => rfl, rfl⟩
    show jb_341_27 Q b p e s3 i d n K (jl_341_27 Q b p e s3 i d n K q) x S = _
    unfold jb_341_27
    rw [if_pos (by omega)]
  | m + 1, q + 1, x, S, h, h1, h2 => by
    obtain ⟨S', r1, r2, r3, r4⟩ := sp_341u (Q := Q) (p := p) (s3 := s3) (i := i) (n := n) (K := K) hb he hd m q (x + (-1)) (ev_pI S 708 (200 * b + x + d).toNat (S.1 708 (200 * b + x).toNat)) (by omega) (by omega) (by omega)
    refine ⟨S', ?_, fun g => ?_, fun c g hc => by rw [r3 c g hc, sp_pI1, if_neg (fun z => hc z.1)], r4⟩
    · show jb_341_27 Q b p e s3 i d n K (jl_341_27 Q b p e s3 i d n K q) x S = _
      unfold jb_341_27
      rw [if_neg (by omega), sp_ck (by omega), sp_ck (by omega), sp_ck (by omega), sp_ck (by omega), sp_ck (by omega), sp_if (by rw [sp_aln708]; omega), sp_b, sp_if (by rw [sp_aln708]; omega), sp_b, sp_ck (by omega)]
      exact r1
    · rw [r2 g, sp_pI1, sp_pI1]
      by_cases c1 : (g : Int) = 200 * b + x + d
      · rw [if_neg (by omega), if_pos ⟨rfl, by omega⟩, if_pos (by omega), show (200 * b + x).toNat = ((g : Int) - d).toNat from by omega]
      · by_cases c2 : 200 * b + e + d ≤ (g : Int) ∧ (g : Int) ≤ 200 * b + x + d
        · rw [if_pos (by omega), if_neg (fun z => by omega), if_pos c2]
        · rw [if_neg (by omega), if_neg (fun z => by omega), if_neg c2]
theorem sp_341d {Q : Nat} {b p e s3 i d n : Int} {K : Int → Int → ev_St → Option ((Unit) × ev_St)} (hb : 0 ≤ b ∧ b < 3) (hd : d ≤ 0) (hn : n ≤ 200) : ∀ (m q : Nat) (x : Int) (S : ev_St), m < q → x = n - m → 0 ≤ x + d → ∃ S', jl_341_74 Q b p e s3 i d n K q x S = K d n S' ∧ (∀ h : Nat, S'.1 708 h = if 200 * b + x + d ≤ (h : Int) ∧ (h : Int) < 200 * b + n + d then S.1 708 ((h : Int) - d).toNat else S.1 708 h) ∧ (∀ c g, c ≠ 708 → S'.1 c g = S.1 c g) ∧ S'.2 = S.2
  | m, 0, x, S, h, _, _ => by omega
  | 0, q + 1, x, S, h, h1, h2 => by
    refine ⟨S, ?_, fun g => by rw [if_neg (by omega)], fun _ _ _ => rfl, rfl⟩
    show jb_341_74 Q b p e s3 i d n K (jl_341_74 Q b p e s3 i d n K q) x S = _
    unfold jb_341_74
    rw [if_pos (by omega)]
  | m + 1, q + 1, x, S, h, h1, h2 => by
    obtain ⟨S', r1, r2, r3, r4⟩ := sp_341d (Q := Q) (p := p) (e := e) (s3 := s3) (i := i) (K := K) hb hd hn m q (x + 1) (ev_pI S 708 (200 * b + x + d).toNat (S.1 708 (200 * b + x).toNat)) (by omega) (by omega) (by omega)
    refine ⟨S', ?_, fun g => ?_, fun c g hc => by rw [r3 c g hc, sp_pI1, if_neg (fun z => hc z.1)], r4⟩
    · show jb_341_74 Q b p e s3 i d n K (jl_341_74 Q b p e s3 i d n K q) x S = _
      unfold jb_341_74
      rw [if_neg (by omega), sp_ck (by omega), sp_ck (by omega), sp_ck (by omega), sp_ck (by omega), sp_ck (by omega), sp_if (by rw [sp_aln708]; omega), sp_b, sp_if (by rw [sp_aln708]; omega), sp_b, sp_ck (by omega)]
      exact r1
    · rw [r2 g, sp_pI1, sp_pI1]
      by_cases c1 : (g : Int) = 200 * b + x + d
      · rw [if_neg (by omega), if_pos ⟨rfl, by omega⟩, if_pos (by omega), show (200 * b + x).toNat = ((g : Int) - d).toNat from by omega]
      · by_cases c2 : 200 * b + x + d ≤ (g : Int) ∧ (g : Int) < 200 * b + n + d
        · rw [if_pos (by omega), if_neg (fun z => by omega), if_pos c2]
        · rw [if_neg (by omega), if_neg (fun z => by omega), if_neg c2]
