/-! CLASSES OF CHARACTERS: one element on both sides -/
section ELEM
variable {Q k w : Nat} {S T : ev_St}
def isKd (d : Int) : Int := if d = 100 ∨ d = 119 ∨ d = 115 ∨ d = 68 ∨ d = 87 ∨ d = 83 then 1 else 0
theorem isKd_i {d : Int} (h : isKd d ≠ 0) : isK d := by
  unfold isKd at h
  split at h
  · assumption
  · exact absurd rfl h
/-- where one element ends, and at which level -/
def cxr (c : Int → Int) (p n : Int) : Int := if c (p + n) = 45 ∧ c (p + n + 1) ≠ 45 then p + n + 1 + sgl (c (p + n + 1)) (c (p + n + 2)) else p + n
def cxp (c : Int → Int) (p : Int) : Int := if c p = 93 then p + 1 else if c p = 91 then (if c (p + 1) = 94 then p + 2 else p + 1) else if (c p = 38 ∧ c (p + 1) = 38) ∨ (c p = 45 ∧ c (p + 1) = 45) then p + 2 else if c p = 92 ∧ isKd (c (p + 1)) ≠ 0 then p + 2 else cxr c p (sgl (c p) (c (p + 1)))
def cxk (c : Int → Int) (p k : Int) : Int := if c p = 93 then k - 1 else if c p = 91 then k + 1 else k
theorem cxp_close {c : Int → Int} {p : Int} (h : c p = 93) : cxp c p = p + 1 := if_pos h
theorem cxp_open {c : Int → Int} {p : Int} (h : c p = 91) : cxp c p = if c (p + 1) = 94 then p + 2 else p + 1 := by
  unfold cxp
  rw [if_neg (by omega), if_pos h]
theorem cxp_joint {c : Int → Int} {p : Int} (h : (c p = 38 ∧ c (p + 1) = 38) ∨ (c p = 45 ∧ c (p + 1) = 45)) : cxp c p = p + 2 := by
  unfold cxp
  rw [if_neg (by omega), if_neg (by omega), if_pos h]
theorem cxp_kind {c : Int → Int} {p : Int} (h : c p = 92) (hd : isKd (c (p + 1)) ≠ 0) : cxp c p = p + 2 := by
  unfold cxp
  rw [if_neg (by omega), if_neg (by omega), if_neg (by omega), if_pos ⟨h, hd⟩]
theorem cxp_range {c : Int → Int} {p : Int} (n93 : c p ≠ 93) (n91 : c p ≠ 91) (nj : ¬ ((c p = 38 ∧ c (p + 1) = 38) ∨ (c p = 45 ∧ c (p + 1) = 45))) (nk : c p = 92 → isKd (c (p + 1)) = 0) : cxp c p = cxr c p (sgl (c p) (c (p + 1))) := by
  unfold cxp
  rw [if_neg n93, if_neg n91, if_neg nj, if_neg (fun z => z.2 (nk z.1))]
theorem cxk_no {c : Int → Int} {p k : Int} (n93 : c p ≠ 93) (n91 : c p ≠ 91) : cxk c p k = k := by
  unfold cxk
  rw [if_neg n93, if_neg n91]
/-- what one element comes to: none, a level, or the end -/
def EL (Q k w : Nat) (S T : ev_St) : Prop := (∃ S', jm_21 Q S = some (0, S') ∧ ∃ x' T', (∀ K, jb_253_7 Q K (k : Int) T = K x' T') ∧ T'.1 621 25 ≠ 0) ∨ (∃ k' S' T', jm_21 Q S = some (1, S') ∧ (∀ K, jb_253_7 Q K (k : Int) T = K ((k' : Nat) : Int) T') ∧ CRel k' w S' T' ∧ rpos T < rpos T' ∧ rpos T' = cxp (sp_at S w) (rpos T) ∧ ((k' : Nat) : Int) = cxk (sp_at S w) (rpos T) k) ∨ (∃ S' T', jm_21 Q S = some (1, S') ∧ (∀ K, jb_253_7 Q K (k : Int) T = K (-1) T') ∧ S'.1 6 7 = -1 ∧ SB (S'.2.1 6 11) (S'.2.1 6 12) (T'.2.1 621 41) (T'.2.1 621 42) ∧ SV (S'.2.1 6 11) (S'.2.1 6 12) ∧ S'.1 6 9 = rpos T' ∧ T'.1 621 25 = 0 ∧ rpos T < rpos T' ∧ rpos T' ≤ S.1 w 1 ∧ rpos T' = cxp (sp_at S w) (rpos T) ∧ -1 = cxk (sp_at S w) (rpos T) k)
theorem rpos_pI {U T : ev_St} {x : Int} (h : U.1 621 28 = T.1 621 28) : rpos (ev_pI U 645 (T.1 621 28).toNat x) = x := by
  unfold rpos
  rw [show (ev_pI U 645 (T.1 621 28).toNat x).1 621 28 = T.1 621 28 from (rd_nk (by omega)).trans h, rd_eq]
theorem CRel_b (hC : CRel k w S T) : ev_isOb w 10 = true ∧ (0 ≤ rpos T ∧ rpos T ≤ 120) ∧ S.1 w 1 ≤ 120 ∧ (0 ≤ T.1 621 28 ∧ T.1 621 28 < 28) := by
  have q := CRel_k hC
  obtain ⟨c1, c2, c3, _⟩ := hC
  exact ⟨c2.1, by omega, q.2, c2.2.2.1⟩
theorem at_in {p : Int} (hp : 0 ≤ p) (h : sp_at S w p ≠ -1) : p < S.1 w 1 := by
  unfold sp_at at h
  split at h
  · omega
  · exact absurd rfl h
/-- "[": a level more -/
theorem el_open (hC : CRel k w S T) (hc : sp_at S w (rpos T) = 91) : EL Q k w S T := by
  have hk := (CRel_k hC).1
  obtain ⟨z1, z2, z3, z4⟩ := CRel_b hC
  have hC0 := hC
  obtain ⟨⟨c1, c2, c3⟩, c4, ⟨c5, c6, c7⟩, c8, c9, c10⟩ := hC
  have hin := at_in (S := S) (w := w) (p := rpos T) (by omega) (by rw [hc]; decide)
  have tx : w ≠ 6 ∧ w ≠ 11 ∧ w ≠ 12 ∧ w ≠ 13 ∧ w + 1 ≠ 6 ∧ w + 1 ≠ 11 ∧ w + 1 ≠ 12 ∧ w + 1 ≠ 13 := by
    unfold isTx at c1
    omega
  have atS : ∀ p, sp_at (ev_pI S 6 9 (rpos T + 1)) w p = sp_at S w p := fun p => by
    unfold sp_at
    rw [rd_nk tx.1, rd_nk (by omega)]
  obtain ⟨S', s1, s2, s3, s4, s5, s6, s7, s8, s9, s10, s11⟩ := sp_19 (Q := Q) (k := k + 1) (w := w) (p := rpos T + 1) (S := ev_pI S 6 9 (rpos T + 1)) (by rw [rd_nf (by omega), c2]; omega) (by omega) z1 (by rw [rd_nk tx.1]; omega) c3 rd_eq (by omega) tx
  rw [atS] at s3 s4
  obtain ⟨T', t1, t2, t3, t4, t5, t6, t7, t8, t9, t10⟩ := sp_252 (Q := Q) (k := k + 1) (p := rpos T) c4 (by omega) rfl (by omega)
  refine Or.inr (Or.inl ⟨k + 1, S', T', ?_, fun K => ?_, ⟨⟨c1, s2, by rw [s11]; exact c3⟩, ?_, ⟨?_, ?_, ?_⟩, ?_, ?_, fun i hi => ?_⟩, ?_, ?_, ?_⟩)
  · unfold jm_21
    rw [c3, sp_b, sp_b, c5, sp_if (by omega), show w + 1 - 1 = w from rfl, sp_151 z1 (by omega), sp_bd, c3, sp_b, sp_b, c5, sp_ck (by omega), sp_if (by omega), show w + 1 - 1 = w from rfl, sp_151 z1 (by omega), sp_bd, hc, if_pos (by decide), if_neg (by decide), sp_b, c5, sp_ck (by omega), sp_b, s1, sp_bd, sp_if (Or.inr rfl)]
  · unfold jb_253_7
    rw [if_neg (by omega), sp_b, c8, if_neg (fun z => z rfl), sp_233 c4 (by omega), sp_bd, sp_233 c4 (by omega), sp_bd, sp_250 c4 (by omega) (by omega), sp_bd, sp_jn, show rpos T + 0 = rpos T from by omega, hc, if_pos (by decide), if_neg (by decide), sp_ck (by omega), show (k : Int) + 1 = ((k + 1 : Nat) : Int) from by omega, t1, sp_bd]
  · refine RT_c (RT_cS c4 (fun g => ?_) (fun g => ?_)) (fun a g ha => t8 a g (by omega) (by omega))
    · rw [s9 w g (by omega) (by omega), rd_nk tx.1]
    · rw [s9 _ g (by omega) (by omega), rd_nk (by omega)]
  · rw [s3, t2, show rpos T + 1 + 1 = rpos T + 2 from by omega]
  · rw [t2]
    split <;> omega
  · rw [t2, s9 w 1 (by omega) (by omega), rd_nk tx.1]
    split
    · next h =>
      have := at_in (S := S) (w := w) (p := rpos T + 1) (by omega) (by rw [h]; decide)
      omega
    · omega
  · rw [t8 621 25 (by omega) (by omega), c8]
  · rw [s9 6 10 (by omega) (by omega), rd_nf (by omega), t8 621 40 (by omega) (by omega)]
    exact c9
  · by_cases e : i = k + 1
    · subst e
      unfold CL
      rw [s7, s8, t6, t7, s5, t4, s4, t3, s6, t5]
      refine ⟨SB_0, SV_0, ⟨rfl, Or.inl rfl⟩, ⟨rfl, ?_⟩, Or.inl ⟨rfl, rfl⟩⟩
      split
      · exact Or.inr rfl
      · exact Or.inl rfl
    · refine CL_c (c10 i (by omega)) (fun a h1 h2 => ?_) (fun a h1 h2 => ?_) (fun a h1 h2 => t8 a i (by omega) (by omega)) (fun a h1 h2 => t9 a i (by omega))
      · rw [s9 a i (by omega) (by omega), rd_nk (by omega)]
      · rw [s10 a i (by omega)]
        rfl
  · rw [t2]
    split <;> omega
  · rw [t2, cxp_open hc]
  · unfold cxk
    rw [if_neg (by omega), if_pos hc]
    omega
/-- the operands before and now: what is told of them together -/
theorem CL_join (h : CL S T k) : SB (jnL (S.1 13 k) (S.2.1 7 k) (S.2.1 9 k)) (jnL (S.1 13 k) (S.2.1 8 k) (S.2.1 10 k)) (rjn (T.1 657 k) (T.2.1 651 k) (T.2.1 653 k)) (rjn (T.1 657 k) (T.2.1 652 k) (T.2.1 654 k)) ∧ SV (jnL (S.1 13 k) (S.2.1 7 k) (S.2.1 9 k)) (jnL (S.1 13 k) (S.2.1 8 k) (S.2.1 10 k)) := by
  obtain ⟨h1, h2, h3, h4, h5⟩ := h
  unfold jnL rjn
  rcases h5 with ⟨a, b⟩ | ⟨⟨a, b⟩ | ⟨a, b⟩, c, d⟩
  · rw [a, b, if_neg (by decide), if_neg (by decide), if_pos rfl, if_neg (by decide), if_neg (by decide), if_pos rfl]
    exact ⟨h1, h2⟩
  · rw [a, b, if_pos rfl, if_pos rfl, if_neg (by decide), if_pos rfl, if_neg (by decide), if_pos rfl]
    exact ⟨SB_and c h1.1, SV_and d _ _⟩
  · rw [a, b, if_neg (by decide), if_pos rfl, if_neg (by decide), if_pos rfl, if_neg (by decide), if_neg (by decide), if_neg (by decide), if_neg (by decide)]
    exact ⟨SB_and c (SB_not h1.1), SV_and d _ _⟩
/-- "&&" and "--" -/
theorem el_joint (hC : CRel k w S T) (hc : (sp_at S w (rpos T) = 38 ∧ sp_at S w (rpos T + 1) = 38) ∨ (sp_at S w (rpos T) = 45 ∧ sp_at S w (rpos T + 1) = 45)) : EL Q k w S T := by
  have hk := (CRel_k hC).1
  obtain ⟨z1, z2, z3, z4⟩ := CRel_b hC
  obtain ⟨⟨c1, c2, c3⟩, c4, ⟨c5, c6, c7⟩, c8, c9, c10⟩ := hC
  obtain ⟨l7, l8, l9, l10, l11, l12, l13⟩ := al_C
  obtain ⟨_, _, _, _, _, _, r7⟩ := al_R
  have hk0 := c10 k (Nat.le_refl _)
  have hin := at_in (S := S) (w := w) (p := rpos T + 1) (by omega) (by rcases hc with ⟨_, h⟩ | ⟨_, h⟩ <;> (rw [h]; decide))
  have s11 : T.1 656 k = 0 ∨ T.1 656 k = 1 := hk0.2.2.1.2
  have e11 : S.1 11 k = T.1 656 k := hk0.2.2.1.1
  obtain ⟨j, hj, jc, jd⟩ : ∃ j : Int, (j = 38 ∨ j = 45) ∧ sp_at S w (rpos T) = j ∧ sp_at S w (rpos T + 1) = j := by
    rcases hc with ⟨h1, h2⟩ | ⟨h1, h2⟩
    · exact ⟨38, Or.inl rfl, h1, h2⟩
    · exact ⟨45, Or.inr rfl, h1, h2⟩
  obtain ⟨T1, t1, t2, t3, t4, t5, t6, t7, t8, t9, t10⟩ := sp_248 (Q := Q) (k := k) (T := T) (by omega) c8 s11
  -- the reference's turn
  have bR : ∀ K, jb_253_7 Q K (k : Int) T = K (k : Int) (ev_pI (ev_pI T1 657 k (if j = 38 then 1 else 2)) 645 (T.1 621 28).toNat (rpos T + 2)) := fun K => by
    have e28 : T1.1 621 28 = T.1 621 28 := t8 _ _ (by omega) (by omega)
    have rp1 : rpos T1 = rpos T := by
      unfold rpos
      rw [e28, t8 645 _ (by omega) (by omega)]
    have g : ∀ v : Int, jm_234 Q 2 (ev_pI T1 657 k v) = some ((), ev_pI (ev_pI T1 657 k v) 645 (T.1 621 28).toNat (rpos T + 2)) := fun v => by
      have rp2 : rpos (ev_pI T1 657 k v) = rpos T := by
        unfold rpos
        rw [rd_nk (by omega), rd_nk (by omega)]
        exact rp1
      rw [sp_234 (by rw [rd_nk (by omega), e28]; exact z4) (by rw [rp2]; omega), rp2, rd_nk (by omega), e28]
    have gs : sgl j j = 0 := by
      unfold sgl
      rcases hj with h | h
      · rw [h]; decide
      · rw [h]; decide
    unfold jb_253_7
    rw [if_neg (by omega), sp_b, c8, if_neg (fun z => z rfl), sp_233 c4 (by omega), sp_bd, sp_233 c4 (by omega), sp_bd, sp_250 c4 (by omega) (by omega), sp_bd, sp_jn, show rpos T + 0 = rpos T from by omega, jc, jd, gs, if_pos (by omega), if_pos (by omega), sp_jn, if_pos (by omega)]
    dsimp only
    rw [if_pos (show (0 : Int) ≤ 0 by decide), sp_jn, sp_jn]
    rcases hj with h | h
    · subst h
      rw [if_neg (by decide), if_pos rfl]
      dsimp only
      rw [t1, sp_bd, sp_jn, if_neg (by decide)]
      dsimp only
      rw [sp_if (by rw [r7]; omega), sp_b, Int.toNat_natCast, g, sp_bd, if_pos rfl]
    · subst h
      rw [if_pos (by decide)]
      dsimp only
      rw [sp_jn, if_neg (by decide), if_neg (by decide)]
      rw [t1, sp_bd, sp_jn, if_pos (by decide)]
      dsimp only
      rw [sp_if (by rw [r7]; omega), sp_b, Int.toNat_natCast, g, sp_bd, if_neg (by decide)]
  -- the class's
  have bC : jm_21 Q S = ev_bd (jm_23 Q j (ev_pI S 6 9 (rpos T + 2))) fun x48 s47 => ev_if (ev_bl x48) (some (x48, s47)) := by
    unfold jm_21
    rw [c3, sp_b, sp_b, c5, sp_if (by omega), show w + 1 - 1 = w from rfl, sp_151 z1 (by omega), sp_bd, c3, sp_b, sp_b, c5, sp_ck (by omega), sp_if (by omega), show w + 1 - 1 = w from rfl, sp_151 z1 (by omega), sp_bd, jc, jd, if_pos (by omega), if_pos (by omega), sp_jn, if_neg (fun z => z rfl), sp_jn]
    rcases hj with h | h
    · subst h
      rw [if_pos rfl]
      dsimp only
      rw [sp_b, c5, sp_ck (by omega), sp_b]
    · subst h
      rw [if_neg (by decide), if_neg (by decide)]
      dsimp only
      rw [sp_b, c5, sp_ck (by omega), sp_b]
  have s67 : (ev_pI S 6 9 (rpos T + 2)).1 6 7 = (k : Int) := by rw [rd_nf (by omega), c2]
  have s611 : (ev_pI S 6 9 (rpos T + 2)).1 11 k = S.1 11 k := rd_nk (by omega)
  by_cases h0 : T.1 656 k = 0
  · refine Or.inl ⟨ev_pI S 6 9 (rpos T + 2), ?_, (k : Int), _, bR, ?_⟩
    · rw [bC]
      unfold jm_23
      rw [sp_24_0 s67 (by omega) (by rw [s611, e11, h0]), sp_bd, if_neg (fun z => z rfl), sp_bd, sp_if (Or.inl rfl)]
    · rw [rd_nk (by omega), rd_nk (by omega), t2, if_pos h0]
      decide
  · obtain ⟨q1, q2⟩ := CL_join hk0
    refine Or.inr (Or.inl ⟨k, ev_pI (ev_pL (ev_pL (ev_pI (ev_pL (ev_pL (ev_pI S 6 9 (rpos T + 2)) 7 k (jnL (S.1 13 k) (S.2.1 7 k) (S.2.1 9 k))) 8 k (jnL (S.1 13 k) (S.2.1 8 k) (S.2.1 10 k))) 13 k j) 9 k L0) 10 k L0) 11 k 0, _, ?_, bR, ?_, ?_, ?_, (cxk_no (by omega) (by omega)).symm⟩)
    · rw [bC]
      unfold jm_23
      rw [sp_24_1 s67 (by omega) (by rw [s611, e11]; exact h0), sp_bd, if_pos (by decide), sp_b]
      rw [show (ev_pI S 6 9 (rpos T + 2)).1 13 k = S.1 13 k from rd_nk (by omega)]
      have e67 : ∀ a b : Int64, (ev_pL (ev_pL (ev_pI S 6 9 (rpos T + 2)) 7 k a) 8 k b).1 6 7 = (k : Int) := fun a b => s67
      rw [e67, sp_if (by rw [l13]; omega), sp_b, Int.toNat_natCast]
      have e67' : ∀ a b : Int64, (ev_pI (ev_pL (ev_pL (ev_pI S 6 9 (rpos T + 2)) 7 k a) 8 k b) 13 k j).1 6 7 = (k : Int) := fun a b => by rw [rd_nk (by omega), e67]
      rw [sp_20 (e67' _ _) (by omega), sp_bd, sp_bd, sp_if (Or.inr rfl)]
      rfl
    · have tx := c1
      unfold isTx at tx
      have e28 : T1.1 621 28 = T.1 621 28 := t8 _ _ (by omega) (by omega)
      have f1 : ∀ a g, ¬ (a = 6 ∧ g = 9) → ¬ ((a = 11 ∨ a = 13) ∧ g = k) → (ev_pI (ev_pL (ev_pL (ev_pI (ev_pL (ev_pL (ev_pI S 6 9 (rpos T + 2)) 7 k (jnL (S.1 13 k) (S.2.1 7 k) (S.2.1 9 k))) 8 k (jnL (S.1 13 k) (S.2.1 8 k) (S.2.1 10 k))) 13 k j) 9 k L0) 10 k L0) 11 k 0).1 a g = S.1 a g := fun a g h1 h2 => by
        rw [sp_pI1, if_neg (by omega), sp_pL1, sp_pL1, sp_pI1, if_neg (by omega), sp_pL1, sp_pL1, sp_pI1, if_neg h1]
      have f2 : ∀ a g, ¬ (7 ≤ a ∧ a ≤ 10 ∧ g = k) → (ev_pI (ev_pL (ev_pL (ev_pI (ev_pL (ev_pL (ev_pI S 6 9 (rpos T + 2)) 7 k (jnL (S.1 13 k) (S.2.1 7 k) (S.2.1 9 k))) 8 k (jnL (S.1 13 k) (S.2.1 8 k) (S.2.1 10 k))) 13 k j) 9 k L0) 10 k L0) 11 k 0).2.1 a g = S.2.1 a g := fun a g h1 => by
        show (ev_pL (ev_pL (ev_pI (ev_pL (ev_pL (ev_pI S 6 9 (rpos T + 2)) 7 k (jnL (S.1 13 k) (S.2.1 7 k) (S.2.1 9 k))) 8 k (jnL (S.1 13 k) (S.2.1 8 k) (S.2.1 10 k))) 13 k j) 9 k L0) 10 k L0).2.1 a g = _
        rw [sp_pL2, if_neg (by omega), sp_pL2, if_neg (by omega)]
        show (ev_pL (ev_pL (ev_pI S 6 9 (rpos T + 2)) 7 k (jnL (S.1 13 k) (S.2.1 7 k) (S.2.1 9 k))) 8 k (jnL (S.1 13 k) (S.2.1 8 k) (S.2.1 10 k))).2.1 a g = _
        rw [sp_pL2, if_neg (by omega), sp_pL2, if_neg (by omega)]
        rfl
      have f3 : ∀ X : ev_St, X = ev_pI (ev_pL (ev_pL (ev_pI (ev_pL (ev_pL (ev_pI S 6 9 (rpos T + 2)) 7 k (jnL (S.1 13 k) (S.2.1 7 k) (S.2.1 9 k))) 8 k (jnL (S.1 13 k) (S.2.1 8 k) (S.2.1 10 k))) 13 k j) 9 k L0) 10 k L0) 11 k 0 → X.2.1 7 k = jnL (S.1 13 k) (S.2.1 7 k) (S.2.1 9 k) ∧ X.2.1 8 k = jnL (S.1 13 k) (S.2.1 8 k) (S.2.1 10 k) ∧ X.2.1 9 k = L0 ∧ X.2.1 10 k = L0 ∧ X.1 11 k = 0 ∧ X.1 13 k = j ∧ X.1 6 9 = rpos T + 2 := fun X hX => by
        subst hX
        refine ⟨(rdL_nk (by omega)).trans ((rdL_nk (by omega)).trans ((rdL_nk (by omega)).trans rd_L)), (rdL_nk (by omega)).trans ((rdL_nk (by omega)).trans rd_L), (rdL_nk (by omega)).trans rd_L, rd_L, rd_eq, ?_, ?_⟩
        · rw [rd_nk (by omega), sp_pL1, sp_pL1, rd_eq]
        · rw [rd_nk (by omega), sp_pL1, sp_pL1, rd_nk (by omega), sp_pL1, sp_pL1, rd_eq]
      have f4 : (ev_pI (ev_pL (ev_pL (ev_pI (ev_pL (ev_pL (ev_pI S 6 9 (rpos T + 2)) 7 k (jnL (S.1 13 k) (S.2.1 7 k) (S.2.1 9 k))) 8 k (jnL (S.1 13 k) (S.2.1 8 k) (S.2.1 10 k))) 13 k j) 9 k L0) 10 k L0) 11 k 0).2.2 = S.2.2 := rfl
      obtain ⟨v7, v8, v9, v10, v11, v13, v69⟩ := f3 _ rfl
      generalize ev_pI (ev_pL (ev_pL (ev_pI (ev_pL (ev_pL (ev_pI S 6 9 (rpos T + 2)) 7 k (jnL (S.1 13 k) (S.2.1 7 k) (S.2.1 9 k))) 8 k (jnL (S.1 13 k) (S.2.1 8 k) (S.2.1 10 k))) 13 k j) 9 k L0) 10 k L0) 11 k 0 = S' at *
      have g1 : ∀ a g, ¬ (a = 657 ∧ g = k) → ¬ (a = 645 ∧ g = (T.1 621 28).toNat) → (ev_pI (ev_pI T1 657 k (if j = 38 then 1 else 2)) 645 (T.1 621 28).toNat (rpos T + 2)).1 a g = T1.1 a g := fun a g h1 h2 => by
        rw [sp_pI1, if_neg h2, sp_pI1, if_neg h1]
      have w57 : (ev_pI (ev_pI T1 657 k (if j = 38 then 1 else 2)) 645 (T.1 621 28).toNat (rpos T + 2)).1 657 k = if j = 38 then 1 else 2 := by rw [rd_nk (by omega), rd_eq]
      have rp : rpos (ev_pI (ev_pI T1 657 k (if j = 38 then 1 else 2)) 645 (T.1 621 28).toNat (rpos T + 2)) = rpos T + 2 := by
        exact rpos_pI (by rw [rd_nk (by omega), e28])
      have g2 : (ev_pI (ev_pI T1 657 k (if j = 38 then 1 else 2)) 645 (T.1 621 28).toNat (rpos T + 2)).2 = T1.2 := rfl
      generalize ev_pI (ev_pI T1 657 k (if j = 38 then 1 else 2)) 645 (T.1 621 28).toNat (rpos T + 2) = T' at *
      have n25 : T'.1 621 25 = 0 := by rw [g1 _ _ (by omega) (by omega), t2, if_neg h0]
      refine ⟨⟨c1, by rw [f1 6 7 (by omega) (by omega), c2], by rw [f4, c3]⟩, RT_c (RT_cS c4 (fun g => f1 w g (by omega) (by omega)) (fun g => f1 _ g (by omega) (by omega))) (fun a g ha => by rw [g1 a g (by omega) (by omega), t8 a g (by omega) (by omega)]), ⟨by rw [v69, rp], by rw [rp]; omega, by rw [rp, f1 w 1 (by omega) (by omega)]; omega⟩, n25, by rw [f1 6 10 (by omega) (by omega), g1 621 40 (by omega) (by omega), t8 621 40 (by omega) (by omega)]; exact c9, fun i hi => ?_⟩
      by_cases e : i = k
      · subst e
        unfold CL
        rw [v7, v8, v9, v10, v11, v13, g2, t3, t4, t5, t6, g1 656 i (by omega) (by omega), t7, f1 12 i (by omega) (by omega), g1 655 i (by omega) (by omega), t8 655 i (by omega) (by omega), w57]
        refine ⟨SB_0, SV_0, ⟨rfl, Or.inl rfl⟩, hk0.2.2.2.1, Or.inr ⟨?_, q1, q2⟩⟩
        rcases hj with h | h
        · exact Or.inl ⟨h, by rw [if_pos h]⟩
        · exact Or.inr ⟨h, by rw [if_neg (by omega)]⟩
      · exact CL_c (c10 i hi) (fun a h1 h2 => f1 a i (by omega) (by omega)) (fun a h1 h2 => f2 a i (by omega)) (fun a h1 h2 => by rw [g1 a i (by omega) (by omega), t8 a i (by omega) (by omega)]) (fun a h1 h2 => by rw [g2, t9 a i (by omega)])
    · have e28 : T1.1 621 28 = T.1 621 28 := t8 _ _ (by omega) (by omega)
      have rp : rpos (ev_pI (ev_pI T1 657 k (if j = 38 then 1 else 2)) 645 (T.1 621 28).toNat (rpos T + 2)) = rpos T + 2 := by
        exact rpos_pI (by rw [rd_nk (by omega), e28])
      rw [rp]
      omega
    · have e28 : T1.1 621 28 = T.1 621 28 := t8 _ _ (by omega) (by omega)
      rw [cxp_joint hc]
      exact rpos_pI (by rw [rd_nk (by omega), e28])
end ELEM
