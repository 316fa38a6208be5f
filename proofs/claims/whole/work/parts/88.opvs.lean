/-! THE READER: how a reading begins -/
section RSTA
variable {Q k n m w d N M D lv t : Nat} {φ ψ own inn G R ws y rk : Nat → Nat} {P q : Nat → Int} {S T S0 T0 S1 S' S2 T' T2 T1 T3 U : ev_St}
theorem fill_l {a n : Nat} {v : Int} (hn : ev_aln a = n) (hn2 : n ≤ 5000) : ∀ (j q : Nat) (x : Nat) (S : ev_St), n - x = j → x ≤ n → j < q → ∃ S', jl_363_5 Q (a + 1) v q (x : Int) (n : Int) S = some ((), S') ∧ (∀ g, x ≤ g → g < n → S'.1 a g = v) ∧ (∀ c g, ¬ (c = a ∧ x ≤ g ∧ g < n) → S'.1 c g = S.1 c g) ∧ S'.2 = S.2 := fun j => by
  induction j with
  | zero =>
    intro q x S hj hx hq
    obtain ⟨q', rfl⟩ : ∃ z, q = z + 1 := ⟨q - 1, by omega⟩
    refine ⟨S, ?_, fun g h1 h2 => by omega, fun c g _ => rfl, rfl⟩
    show jb_363_5 Q _ _ _ _ _ _ = _
    unfold jb_363_5
    rw [if_pos (by omega)]
  | succ j ih =>
    intro q x S hj hx hq
    obtain ⟨q', rfl⟩ : ∃ z, q = z + 1 := ⟨q - 1, by omega⟩
    obtain ⟨S', s1, s2, s3, s4⟩ := ih q' (x + 1) (ev_pI S a x v) (by omega) (by omega) (by omega)
    refine ⟨S', ?_, fun g h1 h2 => ?_, fun c g h => ?_, by rw [s4]; rfl⟩
    · rw [← s1]
      show jb_363_5 Q _ _ _ _ _ _ = _
      unfold jb_363_5
      rw [if_neg (by omega), sp_if (by omega), Nat.add_sub_cancel, sp_if (by rw [hn]; omega), Int.toNat_natCast, sp_b, sp_ck (by omega), show (x : Int) + 1 = ((x + 1 : Nat) : Int) from by omega]
    · by_cases e : g = x
      · rw [s3 _ _ (by omega), e, rd_eq]
      · exact s2 g (by omega) h2
    · rw [s3 c g (by omega), sp_pI1, if_neg (by omega)]
theorem sp_363 {a n : Nat} {v : Int} (hn : ev_aln a = n) (hn2 : n ≤ 5000) (hQ : n < Q) : ∃ S', jm_363 Q (a + 1) v S = some ((), S') ∧ (∀ g, g < n → S'.1 a g = v) ∧ (∀ c g, ¬ (c = a ∧ g < n) → S'.1 c g = S.1 c g) ∧ S'.2 = S.2 := by
  obtain ⟨S', s1, s2, s3, s4⟩ := fill_l (Q := Q) (v := v) hn hn2 n Q 0 S (by omega) (by omega) hQ
  refine ⟨S', ?_, fun g h => s2 g (by omega) h, fun c g h => s3 c g (by omega), s4⟩
  unfold jm_363
  rw [sp_if (by omega), Nat.add_sub_cancel, hn, sp_b]
  exact s1
def stC (S : ev_St) (a0 a1 : Nat) (a2 : Int) : ev_St := ev_pI (ev_pI (ev_pI (ev_pI (ev_pI (ev_pI (ev_pR (ev_pR S 3 7 a0) 3 9 a1) 3 12 a2) 3 8 0) 3 6 0) 3 10 (-1)) 3 11 0) 3 14 0
theorem start_C {a2 : Int} (hQ : 400 ≤ Q) (hk : ev_isOb k 5 = true) (hkr : 232 ≤ k) : ∃ S1, jm_83 Q 2 (k + 1) a2 S = jl_83_59 Q Q 0 S1 ∧ (S1.1 3 12 = a2 ∧ S1.1 3 8 = 0 ∧ S1.1 3 6 = 0 ∧ S1.1 3 10 = 0 ∧ S1.1 3 11 = 0 ∧ S1.1 3 14 = 0 ∧ S1.1 3 13 = 0) ∧ (S1.1 k 11 = 0 ∧ S1.1 k 12 = 0 ∧ ∀ l, l < 26 → S1.1 (k + 11) l = 0) ∧ (S1.1 17 0 = 16 ∧ S1.1 17 1 = 0 ∧ S1.1 17 2 = 0 ∧ S1.1 17 3 = 1 ∧ ∀ g, 4 ≤ g → g ≤ 8 → S1.1 17 g = -1) ∧ (∀ x g, x ≠ 3 → x ≠ 17 → x ≠ k → x ≠ k + 11 → S1.1 x g = S.1 x g) ∧ (S1.2.2.1 3 7 = 2 ∧ S1.2.2.1 3 9 = k + 1 ∧ ∀ x g, x ≠ 3 → S1.2.2.1 x g = S.2.2.1 x g) ∧ S1.2.1 = S.2.1 ∧ S1.2.2.2 = S.2.2.2 := by
  obtain ⟨l10, l11⟩ := al_B hk
  obtain ⟨U, hU⟩ : ∃ U, U = stC S 2 (k + 1) a2 := ⟨_, rfl⟩
  have u12 : U.1 3 12 = a2 := by
    rw [hU]
    unfold stC
    rw [rd_nf (by omega), rd_nf (by omega), rd_nf (by omega), rd_nf (by omega), rd_nf (by omega), rd_eq]
  have u8 : U.1 3 8 = 0 := by
    rw [hU]
    unfold stC
    rw [rd_nf (by omega), rd_nf (by omega), rd_nf (by omega), rd_nf (by omega), rd_eq]
  have u6 : U.1 3 6 = 0 := by
    rw [hU]
    unfold stC
    rw [rd_nf (by omega), rd_nf (by omega), rd_nf (by omega), rd_eq]
  have u10 : U.1 3 10 = -1 := by
    rw [hU]
    unfold stC
    rw [rd_nf (by omega), rd_nf (by omega), rd_eq]
  have u11 : U.1 3 11 = 0 := by
    rw [hU]
    unfold stC
    rw [rd_nf (by omega), rd_eq]
  have u14 : U.1 3 14 = 0 := by
    rw [hU]
    exact rd_eq
  have uo : ∀ x g, x ≠ 3 → U.1 x g = S.1 x g := fun x g h => by
    rw [hU]
    unfold stC
    rw [sp_pI1, if_neg (by omega), sp_pI1, if_neg (by omega), sp_pI1, if_neg (by omega), sp_pI1, if_neg (by omega), sp_pI1, if_neg (by omega), sp_pI1, if_neg (by omega)]
    rfl
  have uR : ∀ x g, U.2.2.1 x g = if x = 3 ∧ g = 9 then k + 1 else if x = 3 ∧ g = 7 then 2 else S.2.2.1 x g := fun x g => by rw [hU]; rfl
  have uL : U.2.1 = S.2.1 ∧ U.2.2.2 = S.2.2.2 := by rw [hU]; exact ⟨rfl, rfl⟩
  have e0 : jm_83 Q 2 (k + 1) a2 S = ev_b (U.2.2.1 3 9) fun r9 => ev_if (r9 ≠ 0) (ev_bd (jm_57 Q ((r9 - 1)) U) fun _ s11 => ev_bd (jm_98 Q 16 0 1 s11) fun x13 s12 => jl_83_59 Q Q 0 s12) := by
    rw [hU]
    rfl
  clear hU
  obtain ⟨V, v1, v2, v3, v4⟩ := sp_363 (Q := Q) (v := 0) (S := ev_pI (ev_pI U k 11 0) k 12 0) l11 (by omega) (by omega)
  have vo : ∀ x g, x ≠ k → x ≠ k + 11 → V.1 x g = U.1 x g := fun x g h1 h2 => by
    rw [v3 x g (by omega), sp_pI1, if_neg (by omega), sp_pI1, if_neg (by omega)]
  have e57 : jm_57 Q k U = some ((), V) := by
    unfold jm_57
    rw [sp_b, sp_b, v1, sp_bd]
  obtain ⟨S1, s1, ⟨b1, b2, b3, b4, b5⟩, ⟨b6, b7⟩, b8, b9⟩ := sp_98 (Q := Q) (a := 16) (b := 0) (c := 1) (d := 0) (S := V) (by rw [vo _ _ (by omega) (by omega), u10]; rfl) (by decide) (Or.inr rfl)
  refine ⟨S1, ?_, ⟨?_, ?_, ?_, b6, ?_, ?_, b7⟩, ⟨?_, ?_, fun l hl => ?_⟩, ⟨b1, b2, ?_, b4, b5⟩, fun x g h1 h2 h3 h4 => ?_, ⟨?_, ?_, fun x g h => ?_⟩, ?_⟩
  · rw [e0, uR, if_pos ⟨rfl, rfl⟩, sp_b, sp_if (by omega), Nat.add_sub_cancel, e57, sp_bd, s1, sp_bd]
  · rw [b8 _ _ (by omega) (by omega), vo _ _ (by omega) (by omega), u12]
  · rw [b8 _ _ (by omega) (by omega), vo _ _ (by omega) (by omega), u8]
  · rw [b8 _ _ (by omega) (by omega), vo _ _ (by omega) (by omega), u6]
  · rw [b8 _ _ (by omega) (by omega), vo _ _ (by omega) (by omega), u11]
  · rw [b8 _ _ (by omega) (by omega), vo _ _ (by omega) (by omega), u14]
  · rw [b8 _ _ (by omega) (by omega), v3 _ _ (by omega), rd_nf (by omega), rd_eq]
  · rw [b8 _ _ (by omega) (by omega), v3 _ _ (by omega), rd_eq]
  · rw [b8 _ _ (by omega) (by omega), v2 l hl]
  · rw [b3, vo _ _ (by omega) (by omega), u11]
  · rw [b8 _ _ (by omega) (by omega), vo _ _ h3 h4, uo x g h1]
  · rw [b9, v4]
    exact (uR 3 7).trans (by rw [if_neg (by omega), if_pos ⟨rfl, rfl⟩])
  · rw [b9, v4]
    exact (uR 3 9).trans (by rw [if_pos ⟨rfl, rfl⟩])
  · rw [b9, v4]
    exact (uR x g).trans (by rw [if_neg (by omega), if_neg (by omega)])
  · rw [b9, v4]
    exact uL
def namT (Q : Nat) (T' : ev_St) : Option (Int × ev_St) := ev_b (ev_pI T' 621 28 0) fun s12 => ev_if ((0 : Int) ≤ 0 ∧ 0 < (ev_aln 644 : Int)) (ev_b (ev_pI s12 644 (Int.toNat 0) ((-1))) fun s13 => ev_if ((0 : Int) ≤ 0 ∧ 0 < (ev_aln 645 : Int)) (ev_b (ev_pI s13 645 (Int.toNat 0) 0) fun s14 => ev_b (ev_pI s14 621 31 0) fun s15 => ev_b (ev_pI s15 621 40 0) fun s16 => ev_b (ev_pI s16 621 37 ((-1))) fun s17 => ev_b (ev_pI s17 621 38 ((-1))) fun s18 => ev_bd (jm_235 Q 9 s18) fun x20 s19 => ev_if ((0 : Int) ≤ 120 ∧ 120 < (ev_aln 637 : Int)) (ev_b (ev_pI s19 637 (Int.toNat 120) x20) fun s21 => ev_bd (jm_239 Q 0 0 s21) fun _ s80 => jl_265_114 Q   Q  s80)))
/-- the reference's names are emptied -/
theorem nam_R : ∀ (j q x : Nat) (T : ev_St), 26 - x = j → x ≤ 26 → j < q → ∃ T', jl_265_33 Q q (x : Int) T = namT Q T' ∧ (∀ l, x ≤ l → l < 26 → T'.1 638 (312 + l) = 0) ∧ (∀ c g, ¬ (c = 638 ∧ 312 + x ≤ g ∧ g < 338) → T'.1 c g = T.1 c g) ∧ T'.2 = T.2 := fun j => by
  obtain ⟨m1, _⟩ := al_Ck
  induction j with
  | zero =>
    intro q x T hj hx hq
    obtain ⟨q', rfl⟩ : ∃ z, q = z + 1 := ⟨q - 1, by omega⟩
    refine ⟨T, ?_, fun l h1 h2 => by omega, fun _ _ _ => rfl, rfl⟩
    show jb_265_33 Q _ _ _ = _
    unfold jb_265_33
    rw [if_pos (by omega)]
    rfl
  | succ j ih =>
    intro q x T hj hx hq
    obtain ⟨q', rfl⟩ : ∃ z, q = z + 1 := ⟨q - 1, by omega⟩
    have e : jl_265_33 Q (q' + 1) (x : Int) T = jl_265_33 Q q' ((x + 1 : Nat) : Int) (ev_pI T 638 (312 + x) 0) := by
      show jb_265_33 Q _ _ _ = _
      unfold jb_265_33
      rw [if_neg (by omega), sp_ck (by omega), sp_if (by rw [m1]; omega), sp_b, sp_ck (by omega), show ((312 : Int) + (x : Int)).toNat = 312 + x from by omega, show (x : Int) + 1 = ((x + 1 : Nat) : Int) from by omega]
    rw [e]
    obtain ⟨T', h0, h1, h2, h3⟩ := ih q' (x + 1) (ev_pI T 638 (312 + x) 0) (by omega) (by omega) (by omega)
    refine ⟨T', h0, fun l h4 h5 => ?_, fun c g h4 => ?_, by rw [h3]; rfl⟩
    · by_cases z : l = x
      · rw [z, h2 _ _ (by omega), rd_eq]
      · exact h1 l (by omega) h5
    · rw [h2 c g (by omega), sp_pI1, if_neg (by omega)]
end RSTA
