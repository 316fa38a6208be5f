/-! MENDING: edits are noted down by the class; then made, on both sides -/
section OSE
variable {Q p k t m i j len w s E b c0 : Nat} {n o0 : Int} {S S1 S2 S' T T1 T2 T' U V : ev_St} {a c d e f v x y md lim : Int} {D : lg_D}
theorem RCT_le (h : RCT m E s T) : (∀ j, j ≤ m → 0 < m → 0 ≤ T.1 703 j ∧ T.1 703 j ≤ (s : Int)) := fun j hj h0 => by
  obtain ⟨_, _, _, h4, h5⟩ := h
  have up : ∀ d j, j + d = m → T.1 703 j ≤ T.1 703 m := fun d => by
    induction d with
    | zero =>
      intro j hj
      rw [show j = m by omega]
      exact Int.le_refl _
    | succ d ih =>
      intro j hj
      have := h5 j (by omega)
      have := ih (j + 1) (by omega)
      omega
  have dn : ∀ j, j ≤ m → T.1 703 0 ≤ T.1 703 j := fun j => by
    induction j with
    | zero => exact fun _ => Int.le_refl _
    | succ j ih =>
      intro hj
      have := h5 j (by omega)
      have := ih (by omega)
      omega
  have a1 := up (m - j) j (by omega)
  have a2 := dn j hj
  have := h4 h0
  omega
theorem gsm_up (h : RCT m E s T) : ∀ d j, j + d ≤ m → gsm T j ≤ gsm T (j + d) := fun d => by
  induction d with
  | zero => exact fun j _ => Int.le_refl _
  | succ d ih =>
    intro j hj
    have := ih j (by omega)
    obtain ⟨a, b, e1, e2, e3, _⟩ := h.1 (j + d) (by omega)
    have e : gsm T (j + (d + 1)) = gsm T (j + d) + (T.1 705 (j + d) - T.1 704 (j + d)) := rfl
    omega
/-- what is taken away behind one of them -/
theorem gsm_be (h : RCT m E s T) {x : Nat} : ∀ d, x + 1 + d ≤ m → gsm T (x + 1 + d) - gsm T (x + 1) ≤ (E : Int) - T.1 705 x := fun d => by
  have key : ∀ d, x + 1 + d ≤ m → gsm T (x + 1 + d) - gsm T (x + 1) ≤ T.1 705 (x + d) - T.1 705 x := fun d => by
    induction d with
    | zero =>
      intro _
      show gsm T (x + 1) - gsm T (x + 1) ≤ T.1 705 x - T.1 705 x
      omega
    | succ d ih =>
      intro hd
      have i1 := ih (by omega)
      have i2 := h.2.1 (x + d) (by omega)
      have e : gsm T (x + 1 + (d + 1)) = gsm T (x + 1 + d) + (T.1 705 (x + 1 + d) - T.1 704 (x + 1 + d)) := rfl
      rw [show x + d + 1 = x + 1 + d by omega] at i2
      rw [show x + (d + 1) = x + 1 + d by omega]
      omega
  intro hd
  have k1 := key d hd
  obtain ⟨a, b, e1, e2, e3, e4⟩ := h.1 (x + d) (by omega)
  omega
/-- the text once the last d of m pieces are put in: tx the text before, places and signs as the reference has them -/
def Rt (T : ev_St) (tx : Nat → Int) (m : Nat) : Nat → Nat → Int
  | 0, g => tx g
  | d + 1, g => if (g : Int) < T.1 704 (m - 1 - d) then Rt T tx m d g else if (g : Int) < T.1 704 (m - 1 - d) + (T.1 703 (m - 1 - d + 1) - T.1 703 (m - 1 - d)) then T.1 702 (T.1 703 (m - 1 - d) + ((g : Int) - T.1 704 (m - 1 - d))).toNat else Rt T tx m d ((g : Int) - (T.1 703 (m - 1 - d + 1) - T.1 703 (m - 1 - d)) + (T.1 705 (m - 1 - d) - T.1 704 (m - 1 - d))).toNat
/-- the edits that are noted down, against the reference's places -/
def RCN (c0 : Nat) (o0 : Int) (m s : Nat) (S T : ev_St) (j : Nat) : Prop := S.1 277 (c0 + j) = T.1 704 (m - 1 - j) ∧ S.1 278 (c0 + j) = T.1 705 (m - 1 - j) - T.1 704 (m - 1 - j) ∧ S.1 279 (c0 + j) = T.1 703 (m - j) - T.1 703 (m - 1 - j) ∧ ∀ g : Nat, (g : Int) < T.1 703 (m - j) - T.1 703 (m - 1 - j) → S.1 280 (o0 + ((s : Int) - T.1 703 (m - j)) + g).toNat = T.1 702 (T.1 703 (m - 1 - j) + g).toNat ∧ sp_sign (T.1 702 (T.1 703 (m - 1 - j) + g).toNat) = 1
def FRnt (S S' : ev_St) : Prop := (∀ c g, ¬ (277 ≤ c ∧ c ≤ 280) → c ≠ 271 → ¬ (c = 270 ∧ g = 1) → ¬ (c = 269 ∧ (g = 9 ∨ g = 10)) → S'.1 c g = S.1 c g) ∧ S'.2 = S.2
theorem FRnt_r : FRnt S S := ⟨fun _ _ _ _ _ _ => rfl, rfl⟩
theorem FRnt_t (h : FRnt S S2) (g : FRnt S2 S') : FRnt S S' := ⟨fun c i a b d e => (g.1 c i a b d e).trans (h.1 c i a b d e), g.2.trans h.2⟩
theorem al_nt : ev_aln 273 = 160 ∧ ev_aln 277 = 820 ∧ ev_aln 278 = 820 ∧ ev_aln 279 = 820 ∧ ev_aln 280 = 800 ∧ ev_aln 271 = 160 := by decide +kernel
/-- one of them is noted down -/
theorem note_one {f r o i : Int} {c1 : Nat} {o1 : Int} (h9 : S.1 269 9 = (c1 : Int)) (h10 : S.1 269 10 = o1) (hc : c1 < 820) (ho1 : 0 ≤ o1 ∧ o1 + i ≤ 800) (ho : 0 ≤ o) (hi : 0 ≤ i) (hoi : o + i ≤ 160) : ∃ S', jm_46 Q f r o i S = some ((), S') ∧ (S'.1 269 9 = (c1 : Int) + 1 ∧ S'.1 269 10 = o1 + i) ∧ (S'.1 277 c1 = f ∧ S'.1 278 c1 = r ∧ S'.1 279 c1 = i ∧ ∀ g : Nat, (g : Int) < i → S'.1 280 (o1 + g).toNat = S.1 273 (o + g).toNat) ∧ (∀ c g : Nat, ¬ (277 ≤ c ∧ c ≤ 279 ∧ g = c1) → ¬ (c = 280 ∧ o1 ≤ (g : Int)) → ¬ (c = 269 ∧ (g = 9 ∨ g = 10)) → S'.1 c g = S.1 c g) ∧ S'.2 = S.2 := by
  obtain ⟨l273, l277, l278, l279, l280, _⟩ := al_nt
  obtain ⟨W, hW⟩ : ∃ W, W = ev_pI (ev_pI (ev_pI S 277 c1 f) 278 c1 r) 279 c1 i := ⟨_, rfl⟩
  have wI : ∀ c g, ¬ (277 ≤ c ∧ c ≤ 279 ∧ g = c1) → W.1 c g = S.1 c g := fun c g y => by rw [hW, sp_pI1, if_neg (by omega), sp_pI1, if_neg (by omega), sp_pI1, if_neg (by omega)]
  obtain ⟨X, hX⟩ : ∃ X, X = ev_cpI W 273 280 o.toNat o1.toNat i.toNat := ⟨_, rfl⟩
  have xI : ∀ c g : Nat, ¬ (c = 280 ∧ o1 ≤ (g : Int)) → X.1 c g = W.1 c g := fun c g y => by
    rw [hX, sp_cp1, if_neg (by omega)]
  refine ⟨ev_pI (ev_pI X 269 9 ((c1 : Int) + 1)) 269 10 (o1 + i), ?_, ⟨by rw [rd_nf (by decide), rd_eq], rd_eq⟩, ⟨?_, ?_, ?_, fun g hg => ?_⟩, fun c g y1 y2 y3 => ?_, ?_⟩
  · unfold jm_46
    simp only [sp_jn]
    rw [if_neg (by omega), if_neg (by omega), sp_ck (by omega), sp_b, l273, if_neg (by omega), if_neg (by decide), sp_b, h9, if_neg (by omega), sp_b, if_neg (by omega), sp_b, h10, if_neg (by omega), sp_b, sp_ck (by omega), if_pos (by omega), sp_b, sp_if (by rw [l277]; omega), sp_b, Int.toNat_natCast, sp_b, rd_nk (by decide), h9, sp_if (by rw [l278]; omega), sp_b, Int.toNat_natCast, sp_b, rd_nk (by decide), rd_nk (by decide), h9, sp_if (by rw [l279]; omega), sp_b, Int.toNat_natCast, ← hW, sp_b, wI 269 10 (by omega), h10, sp_if (by rw [l280]; omega), sp_b, ← hX, sp_b, xI 269 9 (by omega), wI 269 9 (by omega), h9, sp_ck (by omega), sp_b, sp_b, rd_nf (by decide), xI 269 10 (by omega), wI 269 10 (by omega), h10, sp_ck (by omega), sp_b]
  · rw [rd_nk (by decide), rd_nk (by decide), xI _ _ (by omega), hW, rd_nk (by decide), rd_nk (by decide), rd_eq]
  · rw [rd_nk (by decide), rd_nk (by decide), xI _ _ (by omega), hW, rd_nk (by decide), rd_eq]
  · rw [rd_nk (by decide), rd_nk (by decide), xI _ _ (by omega), hW, rd_eq]
  · rw [rd_nk (by decide), rd_nk (by decide), hX, sp_cp1, if_pos ⟨rfl, by omega, by omega⟩, wI _ _ (by omega), show o.toNat + ((o1 + (g : Int)).toNat - o1.toNat) = (o + (g : Int)).toNat by omega]
  · rw [sp_pI1, if_neg (by omega), sp_pI1, if_neg (by omega), xI c g y2, wI c g y1]
  · rw [hX, hW]
    rfl
/-- all of one replacement are noted down -/
theorem note_all (hF : FNL m len s E S T) (hl : S.1 270 1 = (len : Int)) (h80 : len ≤ 80 ∧ s ≤ 80) (h9 : S.1 269 9 = (c0 : Int)) (h10 : S.1 269 10 = o0) (hc : c0 + m ≤ 820) (ho : 0 ≤ o0 ∧ o0 + (s : Int) ≤ 800) (hm0 : 0 < m) : ∀ (r j q : Nat) (U : ev_St), j + r = m → r < q → FRnt S U → U.1 270 1 = (len : Int) - (gsm T m - gsm T (m - j)) + ((s : Int) - T.1 703 (m - j)) → (U.1 269 9 = ((c0 + j : Nat) : Int) ∧ U.1 269 10 = o0 + ((s : Int) - T.1 703 (m - j))) → (∀ i, i < j → RCN c0 o0 m s U T i) → (∀ c g, 277 ≤ c → c ≤ 279 → g < c0 → U.1 c g = S.1 c g) → (∀ g : Nat, (g : Int) < o0 → U.1 280 g = S.1 280 g) → (∀ g : Nat, (g : Int) < U.1 270 1 → U.1 271 g = Rt T (S.1 271) m j g) → ∃ S', jl_45_17 Q q (T.1 703 (m - j)) ((m : Int) - 1 - (j : Int)) U = some ((), S') ∧ FRnt S S' ∧ (S'.1 269 9 = ((c0 + m : Nat) : Int) ∧ S'.1 269 10 = o0 + ((s : Int) - T.1 703 0)) ∧ (∀ i, i < m → RCN c0 o0 m s S' T i) ∧ (∀ c g, 277 ≤ c → c ≤ 279 → g < c0 → S'.1 c g = S.1 c g) ∧ (∀ g : Nat, (g : Int) < o0 → S'.1 280 g = S.1 280 g) ∧ S'.1 270 1 = (len : Int) - gsm T m + ((s : Int) - T.1 703 0) ∧ (∀ g : Nat, (g : Int) < S'.1 270 1 → S'.1 271 g = Rt T (S.1 271) m m g) := fun r => by
  obtain ⟨l273, l277, l278, l279, l280, l271⟩ := al_nt
  obtain ⟨l274, l275, l276, _⟩ := al_pr
  obtain ⟨m81, hM, hR, hD, hE, hg, h80s⟩ := hF
  induction r with
  | zero =>
    intro j q U h1 h2 h3 h4 h5 h6 h7 h8 h10x
    obtain ⟨q, rfl⟩ : ∃ r, q = r + 1 := ⟨q - 1, by omega⟩
    have e : j = m := by omega
    subst e
    rw [Nat.sub_self] at h4 h5 ⊢
    refine ⟨U, ?_, h3, h5, h6, h7, h8, by rw [h4]; show _ - (_ - 0) + _ = _; omega, h10x⟩
    show jb_45_17 Q _ _ _ U = _
    unfold jb_45_17
    rw [if_pos (by omega)]
  | succ r ih =>
    intro j q U h1 h2 h3 h4 h5 h6 h7 h8 h10x
    obtain ⟨q, rfl⟩ : ∃ r, q = r + 1 := ⟨q - 1, by omega⟩
    obtain ⟨x, hx⟩ : ∃ x, x = m - 1 - j := ⟨_, rfl⟩
    have xj : m - j = x + 1 := by omega
    have xj2 : m - (j + 1) = x := by omega
    obtain ⟨a, b, e1, e2, e3, e4⟩ := hR.1 x (by omega)
    obtain ⟨d1, d2, d3⟩ := hD x (by omega)
    have u4 : ∀ g, U.1 274 g = S.1 274 g := fun g => h3.1 _ _ (by omega) (by omega) (by omega) (by omega)
    have u5 : ∀ g, U.1 275 g = S.1 275 g := fun g => h3.1 _ _ (by omega) (by omega) (by omega) (by omega)
    have u6 : ∀ g, U.1 276 g = S.1 276 g := fun g => h3.1 _ _ (by omega) (by omega) (by omega) (by omega)
    have u73 : ∀ g, U.1 273 g = S.1 273 g := fun g => h3.1 _ _ (by omega) (by omega) (by omega) (by omega)
    have k0 := RCT_le hR x (by omega) hm0
    have k1 := RCT_le hR (x + 1) (by omega) hm0
    have k2 := hR.2.2.2.2 x (by omega)
    have gb := gsm_be hR (x := x) (m - (x + 1)) (by omega)
    rw [show x + 1 + (m - (x + 1)) = m by omega] at gb
    have gu := gsm_up hR (m - (x + 1)) (x + 1) (by omega)
    rw [show x + 1 + (m - (x + 1)) = m by omega] at gu
    have ge : gsm T (x + 1) = gsm T x + (T.1 705 x - T.1 704 x) := rfl
    rw [xj] at h4 h5 ⊢
    obtain ⟨V, hV⟩ : ∃ V, V = sp_spl 270 (a : Int) ((b : Int) - (a : Int)) 273 (T.1 703 x) (T.1 703 (x + 1) - T.1 703 x) U := ⟨_, rfl⟩
    have spl : jm_154 Q 270 (a : Int) ((b : Int) - (a : Int)) (273 + 1) (T.1 703 x) (T.1 703 (x + 1) - T.1 703 x) U = some ((), V) := by
      rw [hV]
      exact sp_154 al_fl.2.2.2.2.2.2.2.2 (by omega) (by omega) (by omega) (by omega) (by omega) (by omega) (by omega) (by rw [l273]; omega) (by rw [l273]; decide)
    have vI : ∀ c g, c ≠ 271 → ¬ (c = 270 ∧ g = 1) → V.1 c g = U.1 c g := fun c g y1 y2 => by
      rw [hV]
      exact sp_spl_f y1 y2
    have v70 : V.1 270 1 = U.1 270 1 + ((T.1 703 (x + 1) - T.1 703 x) - ((b : Int) - (a : Int))) := by
      rw [hV]
      exact sp_spl_n
    have v2 : V.2 = U.2 := by
      rw [hV]
      rfl
    obtain ⟨W, w1, ⟨w2, w3⟩, ⟨w4, w5, w6, w7⟩, w8, w9⟩ := note_one (Q := Q) (S := V) (f := (a : Int)) (r := (b : Int) - (a : Int)) (o := T.1 703 x) (i := T.1 703 (x + 1) - T.1 703 x) (c1 := c0 + j) (o1 := o0 + ((s : Int) - T.1 703 (x + 1))) (by rw [vI _ _ (by decide) (by omega)]; exact h5.1) (by rw [vI _ _ (by decide) (by omega)]; exact h5.2) (by omega) ⟨by omega, by omega⟩ (by omega) (by omega) (by omega)
    have fr : FRnt U W := ⟨fun c g y1 y2 y3 y4 => by rw [w8 c g (by omega) (by omega) y4, vI c g y2 y3], by rw [w9, v2]⟩
    obtain ⟨S', r1, r2⟩ := ih (j + 1) q W (by omega) (by omega) (FRnt_t h3 fr) (by
      rw [xj2, w8 _ _ (by omega) (by omega) (by omega), v70, h4]
      omega) ⟨by rw [w2]; omega, by rw [w3, xj2]; omega⟩ (fun i hi => by
      by_cases z : i = j
      · subst z
        refine ⟨?_, ?_, ?_, fun g hg => ?_⟩
        · rw [w4, ← hx, e1]
        · rw [w5, ← hx, e1, e2]
        · rw [w6, ← hx, xj]
        · rw [← hx, xj] at hg ⊢
          have q1 := hM.2.2 (T.1 703 x + (g : Int)).toNat (by omega) (by omega)
          rw [w7 g hg, vI _ _ (by decide) (by omega), u73]
          exact ⟨q1.1, by rw [← q1.1]; exact q1.2⟩
      · obtain ⟨y1, y2, y3, y4⟩ := h6 i (by omega)
        refine ⟨?_, ?_, ?_, fun g hg => ?_⟩
        · rw [w8 _ _ (by omega) (by omega) (by omega), vI _ _ (by decide) (by omega)]
          exact y1
        · rw [w8 _ _ (by omega) (by omega) (by omega), vI _ _ (by decide) (by omega)]
          exact y2
        · rw [w8 _ _ (by omega) (by omega) (by omega), vI _ _ (by decide) (by omega)]
          exact y3
        · have mono : T.1 703 (x + 1) ≤ T.1 703 (m - 1 - i) := by
            have up : ∀ d z, z + d ≤ m → T.1 703 z ≤ T.1 703 (z + d) := fun d => by
              induction d with
              | zero => exact fun z _ => Int.le_refl _
              | succ d ihd =>
                intro z hz
                have t1 := ihd z (by omega)
                have t2 := hR.2.2.2.2 (z + d) (by omega)
                have t3 : z + (d + 1) = z + d + 1 := rfl
                rw [t3]
                omega
            have := up (m - 1 - i - (x + 1)) (x + 1) (by omega)
            rw [show x + 1 + (m - 1 - i - (x + 1)) = m - 1 - i by omega] at this
            exact this
          rw [w8 _ _ (by omega) (by have := RCT_le hR (m - i) (by omega) hm0; omega) (by omega), vI _ _ (by decide) (by omega)]
          exact y4 g hg) (fun c g y1 y2 y3 => by rw [w8 c g (by omega) (by omega) (by omega), vI c g (by omega) (by omega)]; exact h7 c g y1 y2 y3) (fun g hg => by rw [w8 280 g (by omega) (by omega) (by omega), vI 280 g (by omega) (by omega)]; exact h8 g hg) (fun g hg => by
      rw [w8 270 1 (by omega) (by omega) (by omega), v70] at hg
      rw [w8 271 g (by omega) (by omega) (by omega)]
      have at' := sp_spl_at (k := 270) (s := 273) (p := (a : Int)) (r := (b : Int) - (a : Int)) (o := T.1 703 x) (i := T.1 703 (x + 1) - T.1 703 x) (S := U) (by omega) (by omega) (by omega) (by omega) (by omega) (by decide) g hg
      rw [← hV] at at'
      rw [at']
      unfold Rt
      rw [← hx, e1, e2]
      by_cases z1 : (g : Int) < (a : Int)
      · rw [if_pos z1, if_pos z1]
        exact h10x g (by omega)
      · rw [if_neg z1, if_neg z1]
        by_cases z2 : (g : Int) < (a : Int) + (T.1 703 (x + 1) - T.1 703 x)
        · rw [if_pos z2, if_pos z2, u73]
          exact (hM.2.2 _ (by omega) (by omega)).1
        · rw [if_neg z2, if_neg z2]
          exact h10x _ (by omega))
    rw [xj2] at r1
    refine ⟨S', ?_, r2⟩
    show jb_45_17 Q (jl_45_17 Q q) _ _ U = _
    have xi : (m : Int) - 1 - (j : Int) = (x : Int) := by omega
    unfold jb_45_17
    rw [xi, if_neg (by omega), sp_if (by rw [l276]; omega), sp_b, Int.toNat_natCast, u6, d3, sp_ck (by omega), sp_if (by rw [l276]; omega), sp_b, sp_if (by rw [l275]; omega), sp_b, u5, d2, sp_if (by rw [l274]; omega), sp_b, u4, d1, e1, e2, sp_ck (by omega), sp_if (by rw [l274]; omega), sp_b, spl, sp_bd, sp_if (by rw [l274]; omega), sp_b, vI 274 x (by decide) (by omega), u4, d1, e1, w1, sp_bd, sp_ck (by omega), show (x : Int) + -1 = (m : Int) - 1 - ((j + 1 : Nat) : Int) by omega]
    exact r1
end OSE
