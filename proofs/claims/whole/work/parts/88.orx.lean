/-! MENDING: what is made, character by character; groups are told anywhere -/
section ORX
variable {Q p k n m i j : Nat} {S S2 S' T T2 T' U V : ev_St} {a c v x : Int}
def upc (c : Int) : Int := if 97 ≤ c ∧ c ≤ 122 then c - 32 else c
def loc (c : Int) : Int := if 65 ≤ c ∧ c ≤ 90 then c + 32 else c
def mdc (m c : Int) : Int := if m = 1 then upc c else if m = 2 then loc c else c
theorem sp_212 (hc : -1000 ≤ c ∧ c ≤ 1000) : jm_212 Q c S = some (loc c, S) := by
  unfold jm_212 loc
  by_cases h1 : c < 65
  · rw [if_pos h1, if_neg (by omega)]
  · rw [if_neg h1]
    by_cases h2 : 90 < c
    · rw [if_pos h2, if_neg (by omega)]
    · rw [if_neg h2, if_pos (by omega), sp_ck (by omega)]
theorem sp_213 (hc : -1000 ≤ c ∧ c ≤ 1000) : jm_213 Q c S = some (upc c, S) := by
  unfold jm_213 upc
  rw [sp_209, sp_bd]
  unfold ch_l
  by_cases h : 97 ≤ c ∧ c ≤ 122
  · rw [if_pos h, if_neg (by decide), sp_ck (by omega), if_pos h]
  · rw [if_neg h, if_pos rfl, if_neg h]
theorem mdc_sign {m : Int} (hc : sp_sign c = 1) : sp_sign (mdc m c) = 1 := by
  unfold sp_sign at hc ⊢
  split at hc
  · rw [if_pos]
    unfold mdc upc loc
    (repeat' split) <;> omega
  · omega
/-- what is made so far, on both sides: the class drops what goes beyond 160 -/
def MD (n : Nat) (S T : ev_St) : Prop := T.1 621 113 = (n : Int) ∧ S.1 272 1 = ((if n < 160 then n else 160 : Nat) : Int) ∧ ∀ i, i < n → i < 160 → S.1 273 i = T.1 702 i ∧ sp_sign (S.1 273 i) = 1
def FRmS (S S' : ev_St) : Prop := (∀ c g, ¬ (c = 272 ∧ g = 1) → c ≠ 273 → ¬ (c = 269 ∧ g = 11) → S'.1 c g = S.1 c g) ∧ S'.2 = S.2
def FRmT (T T' : ev_St) : Prop := (∀ c g, ¬ (c = 621 ∧ g = 113) → c ≠ 702 → T'.1 c g = T.1 c g) ∧ T'.2 = T.2
theorem FRmS_r : FRmS S S := ⟨fun _ _ _ _ _ => rfl, rfl⟩
theorem FRmT_r : FRmT T T := ⟨fun _ _ _ _ => rfl, rfl⟩
theorem FRmS_t (h : FRmS S S2) (g : FRmS S2 S') : FRmS S S' := ⟨fun x i a b c => (g.1 x i a b c).trans (h.1 x i a b c), g.2.trans h.2⟩
theorem FRmT_t (h : FRmT T T2) (g : FRmT T2 T') : FRmT T T' := ⟨fun x i a b => (g.1 x i a b).trans (h.1 x i a b), g.2.trans h.2⟩
theorem ob_272 : ev_isOb 272 10 = true ∧ ev_aln 273 = 160 := by decide +kernel
theorem al_702 : ev_aln 702 = 200 := by decide +kernel
theorem sp_152f (h : S.1 k 1 = 160) : jm_152 Q k c S = some ((), S) := by
  unfold jm_152
  rw [sp_b, h, if_neg (by decide), sp_b, if_pos (by decide)]
theorem r_put {md : Int} (h : T.1 621 113 = (n : Int)) (hm : md = 0 ∨ md = 1 ∨ md = 2) (hc : -1000 ≤ c ∧ c ≤ 1000) (hn : n ≤ 2000000) : jm_338 Q c md T = some ((), ev_pI (if n < 200 then ev_pI T 702 n (mdc md c) else T) 621 113 ((n + 1 : Nat) : Int)) := by
  have fin : ∀ X : ev_St, X.1 621 113 = (n : Int) → (ev_ck (X.1 621 113 + 1) fun x6 => (some ((), ev_pI X 621 113 x6) : Option (Unit × ev_St))) = some ((), ev_pI X 621 113 ((n + 1 : Nat) : Int)) := fun X hX => by
    rw [hX, sp_ck (by omega), show (n : Int) + 1 = ((n + 1 : Nat) : Int) by omega]
  unfold jm_338
  simp only [sp_jn, sp_b]
  by_cases z : n < 200
  · have st : ∀ v : Int, (ev_if ((0 : Int) ≤ T.1 621 113 ∧ T.1 621 113 < (ev_aln 702 : Int)) (ev_ck ((ev_pI T 702 (Int.toNat (T.1 621 113)) v).1 621 113 + 1) fun x6 => (some ((), ev_pI (ev_pI T 702 (Int.toNat (T.1 621 113)) v) 621 113 x6) : Option (Unit × ev_St)))) = some ((), ev_pI (ev_pI T 702 n v) 621 113 ((n + 1 : Nat) : Int)) := fun v => by
      rw [h, sp_if (by rw [al_702]; omega), Int.toNat_natCast, fin _ (by rw [rd_nk (by decide)]; exact h)]
    rw [if_neg (show ¬ (200 : Int) ≤ T.1 621 113 by omega), if_pos z]
    rcases hm with rfl | rfl | rfl
    · rw [if_pos (by decide), if_pos (by decide)]
      exact st _
    · have e : mdc 1 c = upc c := if_pos rfl
      rw [if_neg (by decide), sp_224, sp_bd, e]
      unfold ch_l upc
      by_cases y : 97 ≤ c ∧ c ≤ 122
      · rw [if_pos y, if_neg (by decide), sp_ck (by omega), if_pos y]
        exact st _
      · rw [if_neg y, if_pos rfl, if_pos (by decide), if_neg y]
        exact st _
    · have e : mdc 2 c = loc c := by
        unfold mdc
        rw [if_neg (by decide), if_pos rfl]
      rw [if_pos (by decide), if_neg (by decide), sp_222, sp_bd, e]
      unfold loc
      by_cases y : 65 ≤ c ∧ c ≤ 90
      · have s1 : sp_in c 65 90 = 1 := by
          unfold sp_in
          rw [if_neg (by omega), if_neg (by omega)]
        rw [s1, if_neg (by decide), sp_ck (by omega), if_pos y]
        exact st _
      · have s0 : sp_in c 65 90 = 0 := by
          unfold sp_in
          (repeat' split) <;> omega
        rw [s0, if_pos rfl, if_neg y]
        exact st _
  · rw [if_pos (show (200 : Int) ≤ T.1 621 113 by omega), if_neg z]
    exact fin T h
/-- one character more -/
theorem md_put {md : Int} (h : MD n S T) (h11 : S.1 269 11 = md) (hm : md = 0 ∨ md = 1 ∨ md = 2) (hc : sp_sign c = 1) (hn : n ≤ 2000000) : ∃ S' T', jm_54 Q c S = some ((), S') ∧ jm_338 Q c md T = some ((), T') ∧ MD (n + 1) S' T' ∧ FRmS S S' ∧ S'.1 269 11 = S.1 269 11 ∧ FRmT T T' := by
  obtain ⟨h1, h2, h3⟩ := h
  have r := sp_sign_r hc
  have sg := mdc_sign (m := md) hc
  have c54 : jm_54 Q c S = jm_152 Q 272 (mdc md c) S := by
    unfold jm_54 mdc
    rw [sp_b, h11, sp_jn]
    have id' : ∀ E : Option (Unit × ev_St), (ev_bd E fun _ s6 => some ((), s6)) = E := fun E => by
      cases E with
      | none => rfl
      | some y => rfl
    rcases hm with rfl | rfl | rfl
    · rw [if_pos (by decide), sp_b, if_pos (by decide), if_neg (by decide), if_neg (by decide)]
      exact id' _
    · rw [if_neg (by decide), sp_213 (by omega), sp_bd, if_pos rfl]
      exact id' _
    · rw [if_pos (by decide), sp_b, if_neg (by decide), sp_212 (by omega), sp_bd, if_neg (by decide), if_pos rfl]
      exact id' _
  have rr := r_put (Q := Q) (md := md) h1 hm (show -1000 ≤ c ∧ c ≤ 1000 by omega) hn
  by_cases z : n < 160
  · rw [if_pos z] at h2
    rw [sp_152 ob_272.1 (by rw [h2]; omega), h2, Int.toNat_natCast, show (272 : Nat) + 1 = 273 from rfl] at c54
    rw [if_pos (show n < 200 by omega)] at rr
    refine ⟨_, _, c54, rr, ⟨rd_eq, ?_, fun i hi hi2 => ?_⟩, ⟨fun c g y1 y2 y3 => ?_, rfl⟩, ?_, ⟨fun c g y1 y2 => ?_, rfl⟩⟩
    · rw [rd_eq]
      by_cases y : n + 1 < 160
      · rw [if_pos y]
        omega
      · rw [if_neg y]
        omega
    · rw [show (ev_pI (ev_pI S 273 n (mdc md c)) 272 1 ((n : Int) + 1)).1 273 i = (ev_pI S 273 n (mdc md c)).1 273 i from rd_nk (by decide), show (ev_pI (ev_pI T 702 n (mdc md c)) 621 113 ((n + 1 : Nat) : Int)).1 702 i = (ev_pI T 702 n (mdc md c)).1 702 i from rd_nk (by decide)]
      by_cases e : i = n
      · rw [e, rd_eq, rd_eq]
        exact ⟨rfl, sg⟩
      · rw [rd_nf e, rd_nf e]
        exact h3 i (by omega) hi2
    · rw [sp_pI1, if_neg y1, rd_nk y2]
    · rw [rd_nk (by decide), rd_nk (by decide)]
    · rw [sp_pI1, if_neg y1, rd_nk y2]
  · rw [if_neg z] at h2
    rw [sp_152f h2] at c54
    refine ⟨_, _, c54, rr, ⟨rd_eq, ?_, fun i hi hi2 => ?_⟩, FRmS_r, rfl, ⟨fun c g y1 y2 => ?_, ?_⟩⟩
    · rw [if_neg (show ¬ n + 1 < 160 by omega)]
      exact h2
    · rw [rd_nk (by decide)]
      by_cases y : n < 200
      · rw [if_pos y, rd_nf (show i ≠ n by omega)]
        exact h3 i (by omega) hi2
      · rw [if_neg y]
        exact h3 i (by omega) hi2
    · rw [sp_pI1, if_neg y1]
      by_cases y : n < 200
      · rw [if_pos y, rd_nk y2]
      · rw [if_neg y]
    · by_cases y : n < 200
      · rw [if_pos y]
        rfl
      · rw [if_neg y]
        rfl
/-- what a group had is told alike where the search's cells are the same -/
theorem j126_c (h : S'.1 281 7 = S.1 281 7) {y : Int} (hj : jm_126 Q x S = some (y, S2)) : S2 = S ∧ jm_126 Q x S' = some (y, S') := by
  have fin : ∀ (z : Int), some (z, S) = some (y, S2) → S2 = S ∧ some (z, S') = some (y, S') := fun z hz => by
    injection hz with hz
    injection hz with h1 h2
    exact ⟨h2.symm, by rw [h1]⟩
  unfold jm_126 ev_ck at hj ⊢
  simp only [sp_b, h] at hj ⊢
  by_cases z : x < 0
  · rw [if_pos z] at hj ⊢
    exact fin _ hj
  · rw [if_neg z] at hj ⊢
    by_cases w : ev_rng (x + 4)
    · rw [if_pos w] at hj ⊢
      by_cases u : S.1 281 7 < x + 4
      · rw [if_pos u] at hj ⊢
        exact fin _ hj
      · rw [if_neg u] at hj ⊢
        by_cases t : (ev_aln 282 : Int) < S.1 281 7
        · rw [if_pos t] at hj ⊢
          exact fin _ hj
        · rw [if_neg t] at hj ⊢
          exact fin _ hj
    · rw [if_neg w] at hj
      cases hj
theorem j129_c (h : ∀ c g, 281 ≤ c → c ≤ 283 → S'.1 c g = S.1 c g) : ∀ (q : Nat) (x c y : Int) (S2 : ev_St), jl_129_7 Q a q x c S = some (y, S2) → S2 = S ∧ jl_129_7 Q a q x c S' = some (y, S') := fun q => by
  induction q with
  | zero => exact fun x c y S2 hj => by cases hj
  | succ q ih =>
    intro x c y S2 hj
    have fin : ∀ (z : Int), some (z, S) = some (y, S2) → S2 = S ∧ some (z, S') = some (y, S') := fun z hz => by
      injection hz with hz
      injection hz with h1 h2
      exact ⟨h2.symm, by rw [h1]⟩
    have hj : jb_129_7 Q a (jl_129_7 Q a q) x c S = some (y, S2) := hj
    show _ ∧ jb_129_7 Q a (jl_129_7 Q a q) x c S' = _
    unfold jb_129_7 ev_ck ev_if at hj ⊢
    by_cases z : 19018 ≤ c
    · rw [if_pos z] at hj ⊢
      exact fin _ hj
    · rw [if_neg z] at hj ⊢
      cases e : jm_126 Q x S with
      | none =>
        rw [e] at hj
        cases hj
      | some w =>
        obtain ⟨f, S3⟩ := w
        obtain ⟨e1, e2⟩ := j126_c (h 281 7 (by decide) (by decide)) e
        subst e1
        rw [e] at hj
        rw [e2]
        simp only [sp_bd, sp_b] at hj ⊢
        by_cases u : f = 0
        · rw [if_pos u] at hj ⊢
          exact fin _ hj
        · rw [if_neg u] at hj ⊢
          by_cases r1 : ev_rng (x + 1)
          · rw [if_pos r1] at hj ⊢
            by_cases r2 : 0 ≤ x + 1 ∧ x + 1 < (ev_aln 282 : Int)
            · rw [if_pos r2] at hj ⊢
              rw [h 282 _ (by decide) (by decide)]
              by_cases r3 : S3.1 282 (Int.toNat (x + 1)) ≠ a
              · rw [if_pos r3] at hj ⊢
                by_cases r4 : 0 ≤ x ∧ x < (ev_aln 282 : Int)
                · rw [if_pos r4] at hj ⊢
                  rw [h 282 _ (by decide) (by decide)]
                  by_cases r5 : ev_rng (c + 1)
                  · rw [if_pos r5] at hj ⊢
                    exact ih _ _ _ _ hj
                  · rw [if_neg r5] at hj
                    cases hj
                · rw [if_neg r4] at hj
                  cases hj
              · rw [if_neg r3] at hj ⊢
                exact fin _ hj
            · rw [if_neg r2] at hj
              cases hj
          · rw [if_neg r1] at hj
            cases hj
theorem j118_c (h : ∀ c g, 281 ≤ c → c ≤ 283 → S'.1 c g = S.1 c g) {y : Int} (hj : jm_118 Q a S = some (y, S2)) : jm_118 Q a S' = some (y, S') := by
  have fin : ∀ (z : Int), some (z, S) = some (y, S2) → some (z, S') = some (y, S') := fun z hz => by
    injection hz with hz
    injection hz with h1 h2
    rw [h1]
  unfold jm_118 ev_ck ev_if at hj ⊢
  by_cases z : a ≠ 0
  · rw [if_pos z] at hj ⊢
    cases e : jm_129 Q a S with
    | none =>
      rw [e] at hj
      cases hj
    | some w =>
      obtain ⟨f, S3⟩ := w
      have e0 : jl_129_7 Q a Q (S.1 281 5) 0 S = some (f, S3) := e
      obtain ⟨e1, e2⟩ := j129_c h _ _ _ _ _ e0
      have e3 : jm_129 Q a S' = some (f, S') := by
        unfold jm_129
        rw [sp_b, h 281 5 (by decide) (by decide)]
        exact e2
      subst e1
      rw [e] at hj
      rw [e3]
      simp only [sp_bd, sp_b] at hj ⊢
      by_cases u : 0 ≤ f
      · rw [if_pos u] at hj ⊢
        by_cases r1 : ev_rng (f + 2)
        · rw [if_pos r1] at hj ⊢
          by_cases r2 : 0 ≤ f + 2 ∧ f + 2 < (ev_aln 282 : Int)
          · rw [if_pos r2] at hj ⊢
            rw [h 282 _ (by decide) (by decide)]
            by_cases r3 : ev_rng (1000 * S3.1 282 (Int.toNat (f + 2)))
            · rw [if_pos r3] at hj ⊢
              by_cases r4 : ev_rng (f + 3)
              · rw [if_pos r4] at hj ⊢
                by_cases r5 : 0 ≤ f + 3 ∧ f + 3 < (ev_aln 282 : Int)
                · rw [if_pos r5] at hj ⊢
                  rw [h 282 _ (by decide) (by decide)]
                  by_cases r6 : ev_rng (1000 * S3.1 282 (Int.toNat (f + 2)) + S3.1 282 (Int.toNat (f + 3)))
                  · rw [if_pos r6] at hj ⊢
                    exact fin _ hj
                  · rw [if_neg r6] at hj
                    cases hj
                · rw [if_neg r5] at hj
                  cases hj
              · rw [if_neg r4] at hj
                cases hj
            · rw [if_neg r3] at hj
              cases hj
          · rw [if_neg r2] at hj
            cases hj
        · rw [if_neg r1] at hj
          cases hj
      · rw [if_neg u] at hj ⊢
        exact fin _ hj
  · rw [if_neg z] at hj ⊢
    simp only [sp_b, h 281 11 (by decide) (by decide), h 281 12 (by decide) (by decide)] at hj ⊢
    by_cases r1 : ev_rng (1000 * S.1 281 11)
    · rw [if_pos r1] at hj ⊢
      by_cases r2 : ev_rng (1000 * S.1 281 11 + S.1 281 12)
      · rw [if_pos r2] at hj ⊢
        exact fin _ hj
      · rw [if_neg r2] at hj
        cases hj
    · rw [if_neg r1] at hj
      cases hj
end ORX
