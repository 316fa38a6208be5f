/-! PATTERNS THAT ARE KEPT: the reference's tables, moved -/
section KEEP
variable {Q k N M p : Nat} {φ ψ own up : Nat → Nat} {S T S2 T2 U : ev_St}
/-- the tables of the pattern p in the places of what is read -/
def sft (p : Nat) (T : ev_St) : ev_St := (fun c g => if 625 ≤ c ∧ c ≤ 632 ∧ 3840 ≤ g then T.1 c (320 * p + (g - 3840)) else if (c = 635 ∨ c = 636) ∧ g = 12 then T.1 c p else if c = 637 ∧ 120 ≤ g then T.1 637 (10 * p + (g - 120)) else if c = 638 ∧ 312 ≤ g then T.1 638 (26 * p + (g - 312)) else T.1 c g, fun c g => if 633 ≤ c ∧ c ≤ 634 ∧ 3840 ≤ g then T.2.1 c (320 * p + (g - 3840)) else T.2.1 c g, T.2.2)
theorem sft_d {c g : Nat} : (sft p T).1 c g = if 625 ≤ c ∧ c ≤ 632 ∧ 3840 ≤ g then T.1 c (320 * p + (g - 3840)) else if (c = 635 ∨ c = 636) ∧ g = 12 then T.1 c p else if c = 637 ∧ 120 ≤ g then T.1 637 (10 * p + (g - 120)) else if c = 638 ∧ 312 ≤ g then T.1 638 (26 * p + (g - 312)) else T.1 c g := rfl
theorem sft_1 {c m : Nat} (h1 : 625 ≤ c) (h2 : c ≤ 632) : (sft p T).1 c (3840 + m) = T.1 c (320 * p + m) := by
  rw [sft_d, if_pos ⟨h1, h2, by omega⟩, show 3840 + m - 3840 = m from by omega]
theorem sft_5 {c : Nat} (h : c = 635 ∨ c = 636) : (sft p T).1 c 12 = T.1 c p := by
  rw [sft_d, if_neg (by omega), if_pos ⟨h, rfl⟩]
theorem sft_7 {j : Nat} : (sft p T).1 637 (120 + j) = T.1 637 (10 * p + j) := by
  rw [sft_d, if_neg (by omega), if_neg (by omega), if_pos ⟨rfl, by omega⟩, show 120 + j - 120 = j from by omega]
theorem sft_8 {l : Nat} : (sft p T).1 638 (312 + l) = T.1 638 (26 * p + l) := by
  rw [sft_d, if_neg (by omega), if_neg (by omega), if_neg (by omega), if_pos ⟨rfl, by omega⟩, show 312 + l - 312 = l from by omega]
theorem sft_L {c m : Nat} (h1 : 633 ≤ c) (h2 : c ≤ 634) : (sft p T).2.1 c (3840 + m) = T.2.1 c (320 * p + m) := by
  refine (if_pos ⟨h1, h2, by omega⟩).trans ?_
  rw [show 3840 + m - 3840 = m from by omega]
theorem FIN_c2 (h : FIN k N M φ ψ own S T) (s1 : ∀ j b, 1 ≤ j → j ≤ 5 → S2.1 (k + j) b = S.1 (k + j) b) (s2 : ∀ j b, 8 ≤ j → j ≤ 9 → S2.2.1 (k + j) b = S.2.1 (k + j) b) (t1 : ∀ c m, 625 ≤ c → c ≤ 632 → m < N → T2.1 c (3840 + m) = T.1 c (3840 + m)) (t2 : ∀ c m, 633 ≤ c → c ≤ 634 → m < N → T2.2.1 c (3840 + m) = T.2.1 c (3840 + m)) : FIN k N M φ ψ own S2 T2 := by
  obtain ⟨h1, ⟨a1, a2, a3, a4, a5, a6⟩, b1, b2, b3, b4, b5⟩ := h
  refine ⟨fun m hm h0 => ?_, ⟨a1, a2, a3, by rw [s1 1 _ (by omega) (by omega)]; exact a4, by rw [s1 5 _ (by omega) (by omega)]; exact a5, ?_⟩, b1, (t1 625 0 (by omega) (by omega) b1).trans b2, fun z => b3 ((t1 626 0 (by omega) (by omega) b1).symm.trans z), (t1 627 0 (by omega) (by omega) b1).trans b4, (t1 630 0 (by omega) (by omega) b1).trans b5⟩
  · obtain ⟨⟨g1, g2, g3, g4⟩, g5, g6, g7⟩ := h1 m hm h0
    refine ⟨⟨g1, g2, g3, g4⟩, KD_c g5 (fun j x y => s1 j _ x (by omega)) (fun j x y => s2 j _ x y) (fun c x y _ => t1 c m x y hm) (fun c x y => t2 c m x y hm), rpt_c g6 (Nat.le_refl _) (fun _ _ => rfl) ⟨g1, g3⟩ ⟨g2, g4⟩ (fun b j hb _ x y _ => s1 j b x y) (fun c x y _ => t1 c m x y hm), ?_⟩
    rw [t1 625 m (by omega) (by omega) hm, t1 626 m (by omega) (by omega) hm, t1 627 m (by omega) (by omega) hm, s1 4 _ (by omega) (by omega), s1 5 _ (by omega) (by omega)]
    exact g7
  · rw [s1 4 _ (by omega) (by omega), show T2.1 626 3840 = T.1 626 3840 from t1 626 0 (by omega) (by omega) b1]
    exact a6
theorem TIE_c (h : TIE k N φ ψ up S T) (hN : 0 < N) (hV : ∀ m t : Nat, m < N → T.1 626 (3840 + m) = (t : Int) → t < N) (s1 : ∀ j b, 1 ≤ j → j ≤ 12 → S2.1 (k + j) b = S.1 (k + j) b) (t1 : ∀ c m, 625 ≤ c → c ≤ 632 → m < N → T2.1 c (3840 + m) = T.1 c (3840 + m)) : TIE k N φ ψ up S2 T2 := by
  obtain ⟨h1, h2, h3, h4, h5⟩ := h
  refine ⟨fun t ht h0 h18 => ?_, fun t ht h18 => ?_, fun t ht hk => ?_, fun t ht => ⟨fun hr => ?_, fun hr => ?_⟩, by rw [s1 7 _ (by omega) (by omega)]; exact h5.1, by rw [nrc_c (f := Kn T) (f' := Kn T2) N (fun m hm => t1 625 m (by omega) (by omega) hm)]; exact h5.2⟩
  · rw [t1 625 t (by omega) (by omega) ht] at h18
    rw [s1 7 _ (by omega) (by omega), t1 627 t (by omega) (by omega) ht]
    exact h1 t ht h0 h18
  · rw [t1 625 t (by omega) (by omega) ht] at h18
    rw [s1 6 _ (by omega) (by omega), t1 626 t (by omega) (by omega) ht]
    exact h2 t ht h18
  · rw [t1 625 t (by omega) (by omega) ht] at hk
    have hc : (T.1 626 (3840 + t)).toNat < N := by
      by_cases z : 0 ≤ T.1 626 (3840 + t)
      · exact hV t _ ht (by omega)
      · omega
    rw [s1 6 _ (by omega) (by omega), t1 626 t (by omega) (by omega) ht, t1 627 _ (by omega) (by omega) hc, s1 6 _ (by omega) (by omega)]
    exact h3 t ht hk
  · rw [t1 630 t (by omega) (by omega) ht] at hr
    rw [s1 7 _ (by omega) (by omega)]
    exact (h4 t ht).1 hr
  · rw [t1 630 t (by omega) (by omega) ht] at hr
    obtain ⟨x, y, e1, e2, e3, e4, e5⟩ := (h4 t ht).2 hr
    exact ⟨x, y, by rw [s1 4 _ (by omega) (by omega)]; exact e1, by rw [s1 4 _ (by omega) (by omega)]; exact e2, by rw [s1 7 _ (by omega) (by omega)]; exact e3, by rw [s1 7 _ (by omega) (by omega)]; exact e4, by rw [s1 6 _ (by omega) (by omega)]; exact e5⟩
theorem FINX_c (h : FINX k N M φ ψ own up S T) (s0 : ∀ g, g = 11 ∨ g = 12 → S2.1 k g = S.1 k g) (s1 : ∀ j b, 1 ≤ j → j ≤ 12 → S2.1 (k + j) b = S.1 (k + j) b) (s2 : ∀ j b, 8 ≤ j → j ≤ 9 → S2.2.1 (k + j) b = S.2.1 (k + j) b) (t1 : ∀ c m, 625 ≤ c → c ≤ 632 → m < N → T2.1 c (3840 + m) = T.1 c (3840 + m)) (t2 : ∀ c m, 633 ≤ c → c ≤ 634 → m < N → T2.2.1 c (3840 + m) = T.2.1 c (3840 + m)) (t5 : ∀ c, c = 635 ∨ c = 636 → T2.1 c 12 = T.1 c 12) (t7 : ∀ j, j ≤ 9 → T2.1 637 (120 + j) = T.1 637 (120 + j)) (t8 : ∀ l, l < 26 → T2.1 638 (312 + l) = T.1 638 (312 + l)) : FINX k N M φ ψ own up S2 T2 := by
  obtain ⟨⟨a1, a2, a3, a4, a5⟩, ⟨b1, b2, b3, b4⟩, ⟨c1, c2, c3⟩, d, e, ⟨f1, f2⟩, g, y, h1, h2, lo, h3⟩ := h
  have hN : 0 < N := a1.2.2.1
  refine ⟨⟨FIN_c2 a1 (fun j b x y => s1 j b x (by omega)) s2 t1 t2, UPf_c a2 (fun m hm => ?_) (fun b _ => s1 4 b (by omega) (by omega)) (fun m c hm hc => t1 c m (by omega) (by omega) hm), fun m hm h18 => ?_, ⟨fun m hm => RV1_c (a4.1 m hm) (fun c x y _ _ => t1 c m x y hm) ⟨by rw [t5 636 (Or.inr rfl)]; exact Int.le_refl _, fun j j1 j2 => t7 j (by omega)⟩, RVl_c a4.2 (fun m c hm hc => t1 c m (by omega) (by omega) hm)⟩, TIE_c a5 hN (fun m t hm ht => (a4.2 m hm).1 t (Or.inl ht) |>.2) s1 t1⟩, ⟨by rw [s0 11 (Or.inl rfl)]; exact b1, b2, by rw [t5 635 (Or.inl rfl)]; exact b3, b4⟩, ?_, fun l hl => ?_, fun j j1 j2 => ?_, ⟨by rw [show T2.1 637 120 = T.1 637 120 from t7 0 (by omega)]; exact f1, by rw [s1 10 _ (by omega) (by omega)]; exact f2⟩, fun m hm => ?_, y, fun m hm h18 h0 => ?_, fun m t hm h18 hx => ?_, lo, LOf_c h3 (fun m c hm hc => t1 c m (by omega) (by omega) hm)⟩
  · by_cases z : m = 0
    · subst z
      rw [a1.2.1.2.1]
      exact a1.2.1.1
    · exact (a1.1 m hm z).1.2.1
  · rw [t1 625 m (by omega) (by omega) hm] at h18
    rw [t1 630 m (by omega) (by omega) hm]
    exact a3 m hm h18
  · rw [s0 12 (Or.inr rfl), t5 636 (Or.inr rfl)]
    exact ⟨c1, c2, c3⟩
  · rw [s1 11 _ (by omega) (by omega), t8 l hl, t5 636 (Or.inr rfl)]
    exact d l hl
  · rw [t5 636 (Or.inr rfl)] at j2
    obtain ⟨t, e1, e2, e3, e4, e5⟩ := e j j1 j2
    exact ⟨t, by rw [t7 j (by omega)]; exact e1, e2, by rw [t1 625 t (by omega) (by omega) e2]; exact e3, by rw [t1 628 t (by omega) (by omega) e2]; exact e4, by rw [s1 10 _ (by omega) (by omega)]; exact e5⟩
  · rw [t1 625 m (by omega) (by omega) hm, t1 628 m (by omega) (by omega) hm, t5 636 (Or.inr rfl)]
    exact g m hm
  · rw [t1 625 m (by omega) (by omega) hm] at h18 ⊢
    exact h1 m hm h18 h0
  · rw [t1 625 m (by omega) (by omega) hm] at h18 ⊢
    rw [t1 627 m (by omega) (by omega) hm] at hx
    exact h2 m t hm h18 hx
theorem al_K : ev_aln 625 = 4160 ∧ ev_aln 626 = 4160 ∧ ev_aln 627 = 4160 ∧ ev_aln 628 = 4160 ∧ ev_aln 629 = 4160 ∧ ev_aln 630 = 4160 ∧ ev_aln 631 = 4160 ∧ ev_aln 632 = 4160 ∧ ev_aln 633 = 4160 ∧ ev_aln 634 = 4160 ∧ ev_aln 635 = 13 ∧ ev_aln 636 = 13 ∧ ev_aln 637 = 130 ∧ ev_aln 638 = 338 ∧ ev_aln 639 = 13 := by decide +kernel
/-- one node is moved -/
def mvK (U : ev_St) (a b : Nat) : ev_St := ev_pL (ev_pL (ev_pI (ev_pI (ev_pI (ev_pI (ev_pI (ev_pI (ev_pI (ev_pI U 625 b (U.1 625 a)) 626 b (U.1 626 a)) 627 b (U.1 627 a)) 628 b (U.1 628 a)) 629 b (U.1 629 a)) 630 b (U.1 630 a)) 631 b (U.1 631 a)) 632 b (U.1 632 a)) 633 b (U.2.1 633 a)) 634 b (U.2.1 634 a)
theorem mvK_1 {a b c g : Nat} : (mvK U a b).1 c g = if 625 ≤ c ∧ c ≤ 632 ∧ g = b then U.1 c a else U.1 c g := by
  unfold mvK
  rw [sp_pL1, sp_pL1, sp_pI1, sp_pI1, sp_pI1, sp_pI1, sp_pI1, sp_pI1, sp_pI1, sp_pI1]
  by_cases hg : g = b
  · by_cases hc : 625 ≤ c ∧ c ≤ 632
    · rw [if_pos (show 625 ≤ c ∧ c ≤ 632 ∧ g = b from ⟨hc.1, hc.2, hg⟩)]
      have : c = 625 ∨ c = 626 ∨ c = 627 ∨ c = 628 ∨ c = 629 ∨ c = 630 ∨ c = 631 ∨ c = 632 := by omega
      rcases this with z | z | z | z | z | z | z | z <;> subst z <;> subst hg <;> simp
    · rw [if_neg (by omega), if_neg (by omega), if_neg (by omega), if_neg (by omega), if_neg (by omega), if_neg (by omega), if_neg (by omega), if_neg (by omega), if_neg (by omega)]
  · rw [if_neg (by omega), if_neg (by omega), if_neg (by omega), if_neg (by omega), if_neg (by omega), if_neg (by omega), if_neg (by omega), if_neg (by omega), if_neg (by omega)]
theorem mvK_2 {a b c g : Nat} : (mvK U a b).2.1 c g = if 633 ≤ c ∧ c ≤ 634 ∧ g = b then U.2.1 c a else U.2.1 c g := by
  unfold mvK
  rw [sp_pL2, sp_pL2]
  show (if c = 634 ∧ g = b then _ else if c = 633 ∧ g = b then _ else U.2.1 c g) = _
  by_cases hg : g = b
  · by_cases hc : 633 ≤ c ∧ c ≤ 634
    · rw [if_pos (show 633 ≤ c ∧ c ≤ 634 ∧ g = b from ⟨hc.1, hc.2, hg⟩)]
      have : c = 633 ∨ c = 634 := by omega
      rcases this with z | z <;> subst z <;> subst hg <;> simp
    · rw [if_neg (by omega), if_neg (by omega), if_neg (by omega)]
  · rw [if_neg (by omega), if_neg (by omega), if_neg (by omega)]
theorem keep_1 (hp : p < 12) (hN : N ≤ 320) : ∀ (r q i : Nat) (U : ev_St), r < q → i + r = N → U.1 635 12 = (N : Int) → ∃ U', jl_270_8 Q (p : Int) q (320 * (p : Int)) (i : Int) U = jl_270_211 Q (p : Int) Q 0 (ev_pI (ev_pI U' 635 p (N : Int)) 636 p (U.1 636 12)) ∧ (∀ c m, 625 ≤ c → c ≤ 632 → i ≤ m → m < N → U'.1 c (320 * p + m) = U.1 c (3840 + m)) ∧ (∀ c g, ¬ (625 ≤ c ∧ c ≤ 632 ∧ 320 * p + i ≤ g ∧ g < 320 * p + N) → U'.1 c g = U.1 c g) ∧ (∀ c m, 633 ≤ c → c ≤ 634 → i ≤ m → m < N → U'.2.1 c (320 * p + m) = U.2.1 c (3840 + m)) ∧ (∀ c g, ¬ (633 ≤ c ∧ c ≤ 634 ∧ 320 * p + i ≤ g ∧ g < 320 * p + N) → U'.2.1 c g = U.2.1 c g) ∧ U'.2.2 = U.2.2
  | r, 0, i, U, h, _, _ => by omega
  | 0, q + 1, i, U, _, hi, h1 => by
    obtain ⟨l25, l26, l27, l28, l29, l30, l31, l32, l33, l34, l35, l36, l37, l38, l39⟩ := al_K
    refine ⟨U, ?_, fun c m _ _ a b => by omega, fun _ _ _ => rfl, fun c m _ _ a b => by omega, fun _ _ _ => rfl, rfl⟩
    show jb_270_8 Q _ _ _ _ U = _
    unfold jb_270_8
    rw [sp_if (by rw [l35]; decide), sp_b, show Int.toNat 12 = 12 from rfl, h1, if_pos (by omega), sp_if (by rw [l35]; decide), sp_b, sp_if (by rw [l35]; omega), sp_b, sp_if (by rw [l36]; decide), sp_b, Int.toNat_natCast, rd_nk (by omega), sp_if (by rw [l36]; omega), sp_b]
  | r + 1, q + 1, i, U, hq, hi, h1 => by
    obtain ⟨l25, l26, l27, l28, l29, l30, l31, l32, l33, l34, l35, l36, l37, l38, l39⟩ := al_K
    have f1 : ∀ c g, ¬ (625 ≤ c ∧ c ≤ 632 ∧ g = 320 * p + i) → (mvK U (3840 + i) (320 * p + i)).1 c g = U.1 c g := fun c g h => by rw [mvK_1, if_neg h]
    obtain ⟨U', r1, r2, r3, r4, r5, r6⟩ := keep_1 hp hN r q (i + 1) (mvK U (3840 + i) (320 * p + i)) (by omega) (by omega) (by rw [f1 _ _ (by omega), h1])
    refine ⟨U', ?_, fun c m a b x y => ?_, fun c g h => ?_, fun c m a b x y => ?_, fun c g h => ?_, r6⟩
    · rw [← f1 636 12 (by omega), ← r1]
      show jb_270_8 Q _ _ _ _ U = _
      unfold jb_270_8
      rw [sp_if (by rw [l35]; decide), sp_b, show Int.toNat 12 = 12 from rfl, h1, if_neg (by omega), sp_232, sp_bd, sp_ck (by omega), sp_ck (by omega)]
      have ea : ((3840 : Int) + (i : Int)).toNat = 3840 + i := by omega
      have eb : (320 * (p : Int) + (i : Int)).toNat = 320 * p + i := by omega
      simp only [ea, eb, l25, l26, l27, l28, l29, l30, l31, l32, l33, l34]
      rw [sp_if (by omega), sp_b, sp_if (by omega), sp_b, sp_ck (by omega), sp_if (by omega), sp_b, sp_if (by omega), sp_b, sp_ck (by omega), sp_if (by omega), sp_b, sp_if (by omega), sp_b, sp_ck (by omega), sp_if (by omega), sp_b, sp_if (by omega), sp_b, sp_ck (by omega), sp_if (by omega), sp_b, sp_if (by omega), sp_b, sp_ck (by omega), sp_if (by omega), sp_b, sp_if (by omega), sp_b, sp_ck (by omega), sp_if (by omega), sp_b, sp_if (by omega), sp_b, sp_ck (by omega), sp_if (by omega), sp_b, sp_if (by omega), sp_b, sp_ck (by omega), sp_if (by omega), sp_b, sp_if (by omega), sp_b, sp_ck (by omega), sp_if (by omega), sp_b, sp_if (by omega), sp_b, sp_ck (by omega)]
      have ei : (i : Int) + 1 = ((i + 1 : Nat) : Int) := by omega
      rw [ei]
      rfl
    · by_cases e : m = i
      · subst e
        rw [r3 _ _ (by omega), mvK_1, if_pos ⟨a, b, rfl⟩]
      · rw [r2 c m a b (by omega) y, f1 _ _ (by omega)]
    · rw [r3 c g (by omega), f1 _ _ (by omega)]
    · by_cases e : m = i
      · subst e
        rw [r5 _ _ (by omega), mvK_2, if_pos ⟨a, b, rfl⟩]
      · rw [r4 c m a b (by omega) y, mvK_2, if_neg (by omega)]
    · rw [r5 c g (by omega), mvK_2, if_neg (by omega)]
theorem keep_2 (hp : p < 12) : ∀ (r q i : Nat) (U : ev_St), r < q → i + r = 10 → ∃ U', jl_270_211 Q (p : Int) q (i : Int) U = jl_270_245 Q (p : Int) Q 0 U' ∧ (∀ m, i ≤ m → m < 10 → U'.1 637 (10 * p + m) = U.1 637 (120 + m)) ∧ (∀ c g, ¬ (c = 637 ∧ 10 * p + i ≤ g ∧ g < 10 * p + 10) → U'.1 c g = U.1 c g) ∧ U'.2 = U.2
  | r, 0, i, U, h, _ => by omega
  | 0, q + 1, i, U, _, hi => by
    refine ⟨U, ?_, fun m a b => by omega, fun _ _ _ => rfl, rfl⟩
    show jb_270_211 Q _ _ _ U = _
    unfold jb_270_211
    rw [if_pos (by omega)]
  | r + 1, q + 1, i, U, hq, hi => by
    have l37 := al_K.2.2.2.2.2.2.2.2.2.2.2.2.1
    obtain ⟨U', r1, r2, r3, r4⟩ := keep_2 hp r q (i + 1) (ev_pI U 637 (10 * p + i) (U.1 637 (120 + i))) (by omega) (by omega)
    refine ⟨U', ?_, fun m a b => ?_, fun c g h => ?_, r4⟩
    · rw [← r1]
      show jb_270_211 Q _ _ _ U = _
      unfold jb_270_211
      rw [if_neg (by omega), sp_ck (by omega), sp_ck (by omega), sp_ck (by omega), sp_if (by rw [l37]; omega), sp_b, sp_if (by rw [l37]; omega), sp_b, sp_ck (by omega), show (120 + (i : Int)).toNat = 120 + i from by omega, show (10 * (p : Int) + (i : Int)).toNat = 10 * p + i from by omega, show (i : Int) + 1 = ((i + 1 : Nat) : Int) from by omega]
    · by_cases e : m = i
      · subst e
        rw [r3 _ _ (by omega), rd_eq]
      · rw [r2 m (by omega) b, rd_nf (by omega)]
    · rw [r3 c g (by omega), sp_pI1, if_neg (by omega)]
/-- the reference's keeping, behind what is moved -/
def kEnd (Q : Nat) (p : Int) (U : ev_St) : Option (Unit × ev_St) := ev_bd (jm_268 Q p U) fun _ s30 => ev_bd (jm_269 Q p s30) fun x32 s31 => ev_if ((0 : Int) ≤ p ∧ p < (ev_aln 639 : Int)) (ev_b (ev_pI s31 639 (Int.toNat p) x32) fun s33 => ev_if ((0 : Int) ≤ p ∧ p < (ev_aln 639 : Int)) (ev_b (s33.1 639 (Int.toNat p)) fun x34 => if x34 ≤ 0 then (some ((), s33)) else (ev_bd (jm_313 Q p s33) fun _ s36 => some ((), s36))))
theorem keep_3 (hp : p < 12) : ∀ (r q i : Nat) (U : ev_St), r < q → i + r = 26 → ∃ U', jl_270_245 Q (p : Int) q (i : Int) U = kEnd Q p U' ∧ (∀ m, i ≤ m → m < 26 → U'.1 638 (26 * p + m) = U.1 638 (312 + m)) ∧ (∀ c g, ¬ (c = 638 ∧ 26 * p + i ≤ g ∧ g < 26 * p + 26) → U'.1 c g = U.1 c g) ∧ U'.2 = U.2
  | r, 0, i, U, h, _ => by omega
  | 0, q + 1, i, U, _, hi => by
    refine ⟨U, ?_, fun m a b => by omega, fun _ _ _ => rfl, rfl⟩
    show jb_270_245 Q _ _ _ U = _
    unfold jb_270_245
    rw [if_pos (by omega)]
    rfl
  | r + 1, q + 1, i, U, hq, hi => by
    have l38 := al_K.2.2.2.2.2.2.2.2.2.2.2.2.2.1
    obtain ⟨U', r1, r2, r3, r4⟩ := keep_3 hp r q (i + 1) (ev_pI U 638 (26 * p + i) (U.1 638 (312 + i))) (by omega) (by omega)
    refine ⟨U', ?_, fun m a b => ?_, fun c g h => ?_, r4⟩
    · rw [← r1]
      show jb_270_245 Q _ _ _ U = _
      unfold jb_270_245
      rw [if_neg (by omega), sp_ck (by omega), sp_ck (by omega), sp_ck (by omega), sp_if (by rw [l38]; omega), sp_b, sp_if (by rw [l38]; omega), sp_b, sp_ck (by omega), show (312 + (i : Int)).toNat = 312 + i from by omega, show (26 * (p : Int) + (i : Int)).toNat = 26 * p + i from by omega, show (i : Int) + 1 = ((i + 1 : Nat) : Int) from by omega]
    · by_cases e : m = i
      · subst e
        rw [r3 _ _ (by omega), rd_eq]
      · rw [r2 m (by omega) b, rd_nf (by omega)]
    · rw [r3 c g (by omega), sp_pI1, if_neg (by omega)]
/-- what the reference's keeping of the pattern p writes -/
def KPc (p c g : Nat) : Prop := (625 ≤ c ∧ c ≤ 632 ∧ 320 * p ≤ g ∧ g < 320 * p + 320) ∨ ((c = 635 ∨ c = 636) ∧ g = p) ∨ (c = 637 ∧ 10 * p ≤ g ∧ g < 10 * p + 10) ∨ (c = 638 ∧ 26 * p ≤ g ∧ g < 26 * p + 26)
theorem keep_all (hp : p < 12) (hQ : 1000 ≤ Q) (hN : N ≤ 320) (h : T.1 635 12 = (N : Int)) : ∃ T1, jm_270 Q (p : Int) T = kEnd Q p T1 ∧ ((∀ c m, 625 ≤ c → c ≤ 632 → m < N → (sft p T1).1 c (3840 + m) = T.1 c (3840 + m)) ∧ (∀ c m, 633 ≤ c → c ≤ 634 → m < N → (sft p T1).2.1 c (3840 + m) = T.2.1 c (3840 + m)) ∧ (∀ c, c = 635 ∨ c = 636 → (sft p T1).1 c 12 = T.1 c 12) ∧ (∀ j, j ≤ 9 → (sft p T1).1 637 (120 + j) = T.1 637 (120 + j)) ∧ (∀ l, l < 26 → (sft p T1).1 638 (312 + l) = T.1 638 (312 + l))) ∧ (∀ c g, ¬ KPc p c g → T1.1 c g = T.1 c g) ∧ (∀ c g, ¬ (633 ≤ c ∧ c ≤ 634 ∧ 320 * p ≤ g ∧ g < 320 * p + 320) → T1.2.1 c g = T.2.1 c g) ∧ T1.2.2 = T.2.2 := by
  obtain ⟨U, a1, a2, a3, a4, a5, a6⟩ := keep_1 (Q := Q) (p := p) hp hN N Q 0 T (by omega) (by omega) h
  obtain ⟨U2, hU2⟩ : ∃ U2, U2 = ev_pI (ev_pI U 635 p (N : Int)) 636 p (T.1 636 12) := ⟨_, rfl⟩
  rw [← hU2] at a1
  have u1 : ∀ c g, ¬ ((c = 635 ∨ c = 636) ∧ g = p) → U2.1 c g = U.1 c g := fun c g z => by
    rw [hU2, sp_pI1, if_neg (by omega), sp_pI1, if_neg (by omega)]
  have u5 : U2.1 635 p = (N : Int) ∧ U2.1 636 p = T.1 636 12 := ⟨by rw [hU2, rd_nk (by omega), rd_eq], by rw [hU2, rd_eq]⟩
  obtain ⟨U3, b1, b2, b3, b4⟩ := keep_2 (Q := Q) (p := p) hp 10 Q 0 U2 (by omega) (by omega)
  obtain ⟨T1, c1, c2, c3, c4⟩ := keep_3 (Q := Q) (p := p) hp 26 Q 0 U3 (by omega) (by omega)
  have g1 : ∀ c g, c ≠ 637 → c ≠ 638 → T1.1 c g = U2.1 c g := fun c g z1 z2 => by rw [c3 c g (by omega), b3 c g (by omega)]
  have g2 : T1.2 = U.2 := by
    rw [c4, b4, hU2]
    rfl
  refine ⟨T1, ?_, ⟨fun c m x y z => ?_, fun c m x y z => ?_, fun c hc => ?_, fun j hj => ?_, fun l hl => ?_⟩, fun c g z => ?_, fun c g z => ?_, ?_⟩
  · unfold jm_270
    rw [sp_ck (by omega), ← c1]
    rw [show (0 : Int) = ((0 : Nat) : Int) from rfl] at a1 ⊢
    rw [a1]
    exact b1
  · rw [sft_1 x y, g1 _ _ (by omega) (by omega), u1 _ _ (by omega), a2 c m x y (by omega) z]
  · rw [sft_L x y, g2, a4 c m x y (by omega) z]
  · rw [sft_5 hc, g1 _ _ (by omega) (by omega)]
    rcases hc with e | e
    · rw [e, u5.1, h]
    · rw [e, u5.2]
  · rw [sft_7, c3 _ _ (by omega), b2 j (by omega) (by omega), u1 _ _ (by omega), a3 _ _ (by omega)]
  · rw [sft_8, c2 l (by omega) hl, b3 _ _ (by omega), u1 _ _ (by omega), a3 _ _ (by omega)]
  · unfold KPc at z
    rw [c3 _ _ (by omega), b3 _ _ (by omega), u1 _ _ (by omega), a3 _ _ (by omega)]
  · rw [g2, a5 _ _ (by omega)]
  · rw [g2, a6]
end KEEP
