/-! THE READER'S LEAVES: the class's items -/
section RITEM
variable {Q k n m w d : Nat} {S T : ev_St}
/-- where the new item is linked: behind the last one, or first in the row -/
def ckc (k d : Nat) (l : Int) : Nat := if l = -1 then 17 + d else k + 5
def ckp (l : Int) : Nat := if l = -1 then 6 else l.toNat
theorem ck_i (k d : Nat) (l : Int) : (l = -1 ∧ ckc k d l = 17 + d ∧ ckp l = 6) ∨ (l ≠ -1 ∧ ckc k d l = k + 5 ∧ ckp l = l.toNat) := by
  unfold ckc ckp
  by_cases e : l = -1
  · exact Or.inl ⟨e, if_pos e, if_pos e⟩
  · exact Or.inr ⟨e, if_neg e, if_neg e⟩
/-- what a new item comes to: n at the end of the row, all else as before -/
def APf (k d n : Nat) (S S' : ev_St) : Prop := (S'.1 (17 + d) 7 = (n : Int) ∧ S'.1 (17 + d) 8 = S.1 (17 + d) 7 ∧ S'.1 (ckc k d (S.1 (17 + d) 7)) (ckp (S.1 (17 + d) 7)) = (n : Int)) ∧ (∀ c g, ¬ (c = 17 + d ∧ (g = 7 ∨ g = 8)) → ¬ (c = ckc k d (S.1 (17 + d) 7) ∧ g = ckp (S.1 (17 + d) 7)) → S'.1 c g = S.1 c g) ∧ S'.2 = S.2
theorem sp_91 (hk : ev_isOb k 5 = true) (hkr : 232 ≤ k) (h9 : S.2.2.1 3 9 = k + 1) (hd : S.1 3 10 = (d : Int)) (hd2 : d < 152) (hc : S.1 k 11 ≤ 400) (hn : (n : Int) < S.1 k 11) (hl : -1 ≤ S.1 (17 + d) 7 ∧ S.1 (17 + d) 7 < S.1 k 11) : ∃ S', jm_91 Q (n : Int) S = some (1, S') ∧ APf k d n S S' := by
  obtain ⟨l1, l2, l3, l4, l5, l6, l7, _, _⟩ := al_Pt hk
  have dn : 17 + 1 * ((d : Int)).toNat = 17 + d := by omega
  refine ⟨ev_pI (ev_pI (ev_pI S (ckc k d (S.1 (17 + d) 7)) (ckp (S.1 (17 + d) 7)) (n : Int)) (17 + d) 8 (S.1 (17 + d) 7)) (17 + d) 7 (n : Int), ?_, ⟨rd_eq, ?_, ?_⟩, fun c g h1 h2 => ?_, rfl⟩
  · unfold jm_91
    rw [h9, sp_b, sp_if (by omega), show k + 1 - 1 = k from rfl, sp_59, if_pos (by omega), sp_bd, if_neg (by decide), hd, sp_b, if_neg (by omega), sp_b, if_pos (by omega), sp_b, sp_if (by omega), sp_b, dn, sp_b, sp_b, sp_if (by omega), h9, show k + 1 - 1 = k from rfl, sp_59]
    rcases ck_i k d (S.1 (17 + d) 7) with ⟨h1, h2, h3⟩ | ⟨h1, h2, h3⟩
    · rw [h2, h3, if_neg (by omega), sp_bd, sp_jn, if_pos rfl, sp_b]
      dsimp only
      rw [show (ev_pI S (17 + d) 6 (n : Int)).1 (17 + d) 7 = S.1 (17 + d) 7 from rd_nf (by omega)]
      rfl
    · rw [h2, h3, if_pos (by omega), sp_bd, sp_jn, if_neg (by decide), h9, sp_b, sp_if (by omega), sp_b, show k + 1 - 1 = k from rfl, sp_if (by rw [l5]; omega), sp_b]
      dsimp only
      rw [show (ev_pI S (k + 5) (S.1 (17 + d) 7).toNat (n : Int)).1 (17 + d) 7 = S.1 (17 + d) 7 from rd_nk (by omega)]
      rfl
  · rw [rd_nf (by omega), rd_eq]
  · rcases ck_i k d (S.1 (17 + d) 7) with ⟨h1, h2, h3⟩ | ⟨h1, h2, h3⟩
    · rw [h2, h3, rd_nf (by omega), rd_nf (by omega), rd_eq]
    · rw [h2, h3, rd_nk (by omega), rd_nk (by omega), rd_eq]
  · rw [sp_pI1, if_neg (by omega), sp_pI1, if_neg (by omega), sp_pI1, if_neg h2]
/-- the class's new leaf -/
def LFc (k d n : Nat) (a b c : Int) (S S' : ev_St) : Prop := (S'.1 k 11 = (n : Int) + 1 ∧ S'.1 (k + 1) n = a ∧ S'.1 (k + 2) n = b ∧ S'.1 (k + 3) n = c ∧ ∀ j, 4 ≤ j → j ≤ 7 → S'.1 (k + j) n = -1) ∧ (S'.1 3 13 = 1 ∧ S'.1 3 14 = S.1 3 14 + 1 ∧ S'.1 (17 + d) 7 = (n : Int) ∧ S'.1 (17 + d) 8 = S.1 (17 + d) 7 ∧ S'.1 (ckc k d (S.1 (17 + d) 7)) (ckp (S.1 (17 + d) 7)) = (n : Int)) ∧ (∀ x g, ¬ (x = 3 ∧ (g = 13 ∨ g = 14)) → ¬ (x = k ∧ g = 11) → ¬ (k + 1 ≤ x ∧ x ≤ k + 7 ∧ g = n) → ¬ (x = 17 + d ∧ (g = 7 ∨ g = 8)) → ¬ (x = ckc k d (S.1 (17 + d) 7) ∧ g = ckp (S.1 (17 + d) 7)) → S'.1 x g = S.1 x g) ∧ S'.2.2 = S.2.2
theorem LF_of {a b c : Int} (hkr : 232 ≤ k) (hd2 : d < 152) (hl : -1 ≤ S.1 (17 + d) 7 ∧ S.1 (17 + d) 7 < (n : Int)) {S1 S2 S3 : ev_St} (s1 : S1.1 3 14 = S.1 3 14 + 1) (s2 : ∀ x g, ¬ (x = 3 ∧ (g = 13 ∨ g = 14)) → S1.1 x g = S.1 x g) (s3 : S1.2.2 = S.2.2) (s4 : S2.1 k 11 = (n : Int) + 1 ∧ S2.1 (k + 1) n = a ∧ S2.1 (k + 2) n = b ∧ S2.1 (k + 3) n = c ∧ ∀ j, 4 ≤ j → j ≤ 7 → S2.1 (k + j) n = -1) (s5 : ∀ x g, ¬ (x = 3 ∧ g = 13) → ¬ (x = k ∧ g = 11) → ¬ (k + 1 ≤ x ∧ x ≤ k + 7 ∧ g = n) → S2.1 x g = S1.1 x g) (s6 : S2.2.2 = S1.2.2) (s7 : S2.1 3 13 = 1) (s8 : APf k d n S2 S3) : LFc k d n a b c S S3 := by
  obtain ⟨⟨a1, a2, a3⟩, a4, a5⟩ := s8
  have e7 : S2.1 (17 + d) 7 = S.1 (17 + d) 7 := by rw [s5 _ _ (by omega) (by omega) (by omega), s2 _ _ (by omega)]
  rw [e7] at a2 a3 a4
  have q := ck_i k d (S.1 (17 + d) 7)
  have nk : ∀ j, 1 ≤ j → j ≤ 7 → S3.1 (k + j) n = S2.1 (k + j) n := fun j h1 h2 => a4 _ _ (by omega) (by omega)
  refine ⟨⟨?_, ?_, ?_, ?_, fun j h1 h2 => ?_⟩, ⟨?_, ?_, a1, a2, a3⟩, fun x g h1 h2 h3 h4 h5 => ?_, ?_⟩
  · rw [a4 _ _ (by omega) (by omega)]
    exact s4.1
  · rw [nk 1 (by omega) (by omega)]
    exact s4.2.1
  · rw [nk 2 (by omega) (by omega)]
    exact s4.2.2.1
  · rw [nk 3 (by omega) (by omega)]
    exact s4.2.2.2.1
  · rw [nk j (by omega) h2]
    exact s4.2.2.2.2 j h1 h2
  · rw [a4 _ _ (by omega) (by omega), s7]
  · rw [a4 _ _ (by omega) (by omega), s5 _ _ (by omega) (by omega) (by omega), s1]
  · rw [a4 x g h4 h5, s5 x g (by omega) h2 h3, s2 x g h1]
  · rw [a5, s6, s3]
theorem sp_88 {a b c : Int} (hk : ev_isOb k 5 = true) (hkr : 232 ≤ k) (h9 : S.2.2.1 3 9 = k + 1) (hd : S.1 3 10 = (d : Int)) (hd2 : d < 152) (hn : S.1 k 11 = (n : Int)) (hh : n < 400) (hl : -1 ≤ S.1 (17 + d) 7 ∧ S.1 (17 + d) 7 < (n : Int)) (hc : 0 ≤ S.1 3 14 ∧ S.1 3 14 ≤ 1000) : (150 ≤ S.1 3 14 ∧ ∃ S', jm_88 Q a b c S = some (0, S')) ∨ (S.1 3 14 < 150 ∧ ∃ S', jm_88 Q a b c S = some (1, S') ∧ LFc k d n a b c S S' ∧ S'.2.1 = S.2.1) := by
  unfold jm_88
  rw [sp_87 hc, sp_bd]
  by_cases e : 150 ≤ S.1 3 14
  · rw [if_pos e, if_neg (by decide)]
    exact Or.inl ⟨e, _, rfl⟩
  · rw [if_neg e, if_pos (by decide), sp_b]
    refine Or.inr ⟨by omega, ?_⟩
    have u1 : ∀ x g, ¬ (x = 3 ∧ (g = 13 ∨ g = 14)) → (ev_pI (ev_pI S 3 14 (S.1 3 14 + 1)) 3 13 1).1 x g = S.1 x g := fun x g h => by
      rw [sp_pI1, if_neg (by omega), sp_pI1, if_neg (by omega)]
    have u2 : (ev_pI (ev_pI S 3 14 (S.1 3 14 + 1)) 3 13 1).1 3 14 = S.1 3 14 + 1 := by rw [rd_nf (by omega), rd_eq]
    have u3 : (ev_pI (ev_pI S 3 14 (S.1 3 14 + 1)) 3 13 1).1 3 13 = 1 := rd_eq
    have u4 : (ev_pI (ev_pI S 3 14 (S.1 3 14 + 1)) 3 13 1).2 = S.2 := rfl
    generalize ev_pI (ev_pI S 3 14 (S.1 3 14 + 1)) 3 13 1 = U at *
    obtain ⟨S2, b1, b2, b3, b4⟩ := sp_58 (Q := Q) (a := a) (b := b) (c := c) (S := U) hk (by rw [u1 _ _ (by omega), hn]) hh
    have e7 : S2.1 (17 + d) 7 = S.1 (17 + d) 7 := by rw [b3 _ _ (by omega) (by omega), u1 _ _ (by omega)]
    obtain ⟨S3, c1, c2⟩ := sp_91 (Q := Q) (S := S2) (n := n) (d := d) hk hkr (by rw [b4, u4, h9]) (by rw [b3 _ _ (by omega) (by omega), u1 _ _ (by omega), hd]) hd2 (by rw [b2.1]; omega) (by rw [b2.1]; omega) (by rw [e7, b2.1]; omega)
    rw [show U.2.2.1 3 9 = k + 1 from by rw [u4, h9], sp_b, sp_if (by omega), show k + 1 - 1 = k from rfl, b1, sp_bd, c1, sp_bd, sp_if (Or.inr rfl)]
    refine ⟨S3, rfl, LF_of hkr hd2 hl u2 u1 (by rw [u4]) b2 (fun x g h1 h2 h3 => b3 x g h2 h3) (by rw [b4]) (by rw [b3 _ _ (by omega) (by omega), u3]) c2, ?_⟩
    rw [c2.2.2, b4, u4]
theorem sp_90 {l h : Int64} (hk : ev_isOb k 5 = true) (hkr : 232 ≤ k) (h9 : S.2.2.1 3 9 = k + 1) (hd : S.1 3 10 = (d : Int)) (hd2 : d < 152) (hn : S.1 k 11 = (n : Int)) (hh : n < 400) (hl : -1 ≤ S.1 (17 + d) 7 ∧ S.1 (17 + d) 7 < (n : Int)) (hc : 0 ≤ S.1 3 14 ∧ S.1 3 14 ≤ 1000) : (150 ≤ S.1 3 14 ∧ ∃ S', jm_90 Q l h S = some (0, S')) ∨ (S.1 3 14 < 150 ∧ ∃ S', jm_90 Q l h S = some (1, S') ∧ LFc k d n 0 0 0 S S' ∧ (S'.2.1 (k + 8) n = l ∧ S'.2.1 (k + 9) n = h) ∧ ∀ x g, ¬ ((x = k + 8 ∨ x = k + 9) ∧ g = n) → S'.2.1 x g = S.2.1 x g) := by
  obtain ⟨l1, l2, l3, l4, l5, l6, l7, l8, l9⟩ := al_Pt hk
  have k9 : (ev_pI S 3 14 (S.1 3 14 + 1)).2.2.1 3 9 = k + 1 := h9
  unfold jm_90
  rw [sp_87 hc, sp_bd, sp_jn]
  by_cases e : 150 ≤ S.1 3 14
  · rw [if_pos e, if_pos rfl]
    dsimp only
    rw [k9, sp_b, sp_if (by omega), sp_59, if_neg (by omega), sp_bd, if_neg (fun z => z rfl)]
    exact Or.inl ⟨e, _, rfl⟩
  · rw [if_neg e, if_neg (by decide)]
    refine Or.inr ⟨by omega, ?_⟩
    have u1 : ∀ x g, ¬ (x = 3 ∧ (g = 13 ∨ g = 14)) → (ev_pI S 3 14 (S.1 3 14 + 1)).1 x g = S.1 x g := fun x g h => by
      rw [sp_pI1, if_neg (by omega)]
    have u2 : (ev_pI S 3 14 (S.1 3 14 + 1)).1 3 14 = S.1 3 14 + 1 := rd_eq
    have u4 : (ev_pI S 3 14 (S.1 3 14 + 1)).2 = S.2 := rfl
    generalize ev_pI S 3 14 (S.1 3 14 + 1) = U at *
    obtain ⟨S2, b1, b2, b3, b4⟩ := sp_58 (Q := Q) (a := 0) (b := 0) (c := 0) (S := U) hk (by rw [u1 _ _ (by omega), hn]) hh
    have k9' : S2.2.2.1 3 9 = k + 1 := by rw [b4, k9]
    have w1 : ∀ x g, ¬ (x = 3 ∧ g = 13) → (ev_pI (ev_pL (ev_pL S2 (k + 8) n l) (k + 9) n h) 3 13 1).1 x g = S2.1 x g := fun x g h => by
      rw [sp_pI1, if_neg h]
      rfl
    have w2 : (ev_pI (ev_pL (ev_pL S2 (k + 8) n l) (k + 9) n h) 3 13 1).2.2 = S2.2.2 := rfl
    have w3 : (ev_pI (ev_pL (ev_pL S2 (k + 8) n l) (k + 9) n h) 3 13 1).1 3 13 = 1 := rd_eq
    have w4 : (ev_pI (ev_pL (ev_pL S2 (k + 8) n l) (k + 9) n h) 3 13 1).2.1 (k + 8) n = l := (rdL_nk (by omega)).trans rd_L
    have w5 : (ev_pI (ev_pL (ev_pL S2 (k + 8) n l) (k + 9) n h) 3 13 1).2.1 (k + 9) n = h := rd_L
    have w6 : ∀ x g, ¬ ((x = k + 8 ∨ x = k + 9) ∧ g = n) → (ev_pI (ev_pL (ev_pL S2 (k + 8) n l) (k + 9) n h) 3 13 1).2.1 x g = S2.2.1 x g := fun x g hx => by
      show (ev_pL (ev_pL S2 (k + 8) n l) (k + 9) n h).2.1 x g = _
      rw [sp_pL2, if_neg (by omega), sp_pL2, if_neg (by omega)]
    rw [k9, sp_b, sp_if (by omega), show k + 1 - 1 = k from rfl, b1, sp_bd]
    dsimp only
    rw [k9', sp_b, sp_if (by omega), show k + 1 - 1 = k from rfl, sp_59, if_pos (by rw [b2.1]; omega), sp_bd, if_pos (by decide), k9', sp_b, sp_if (by omega), show k + 1 - 1 = k from rfl, sp_if (by rw [l8]; omega), Int.toNat_natCast, sp_b, show (ev_pL S2 (k + 8) n l).2.2.1 3 9 = k + 1 from k9', sp_b, sp_if (by omega), show k + 1 - 1 = k from rfl, sp_if (by rw [l9]; omega), sp_b, sp_b]
    generalize ev_pI (ev_pL (ev_pL S2 (k + 8) n l) (k + 9) n h) 3 13 1 = X at *
    have e7 : X.1 (17 + d) 7 = S.1 (17 + d) 7 := by rw [w1 _ _ (by omega), b3 _ _ (by omega) (by omega), u1 _ _ (by omega)]
    have x11 : X.1 k 11 = (n : Int) + 1 := by rw [w1 _ _ (by omega), b2.1]
    obtain ⟨S3, c1, c2⟩ := sp_91 (Q := Q) (S := X) (n := n) (d := d) hk hkr (by rw [w2, k9']) (by rw [w1 _ _ (by omega), b3 _ _ (by omega) (by omega), u1 _ _ (by omega), hd]) hd2 (by rw [x11]; omega) (by rw [x11]; omega) (by rw [e7, x11]; omega)
    rw [c1, sp_bd, sp_if (Or.inr rfl)]
    refine ⟨S3, rfl, LF_of hkr hd2 hl u2 u1 (by rw [u4]) ⟨x11, ?_, ?_, ?_, fun j h1 h2 => ?_⟩ (fun x g h1 h2 h3 => by rw [w1 x g h1, b3 x g h2 h3]) (by rw [w2, b4]) w3 c2, ⟨?_, ?_⟩, fun x g hx => ?_⟩
    · rw [w1 _ _ (by omega), b2.2.1]
    · rw [w1 _ _ (by omega), b2.2.2.1]
    · rw [w1 _ _ (by omega), b2.2.2.2.1]
    · rw [w1 _ _ (by omega), b2.2.2.2.2 j h1 h2]
    · rw [c2.2.2, w4]
    · rw [c2.2.2, w5]
    · rw [c2.2.2, w6 x g hx, b4, u4]
end RITEM
