/-! CLASSES OF CHARACTERS: the end of a level -/
section ELEM4
variable {Q k w : Nat} {S T : ev_St}
/-- the set of the level that ends -/
def edA (n : Int) (x : Int64) : Int64 := if n = 0 then x else (-4294966272) &&& (x ^^^ (-1))
def edB (n : Int) (x : Int64) : Int64 := if n = 0 then x else 9223372036854775807 &&& (x ^^^ (-1))
def erA (n : Int) (x : Int64) : Int64 := if n = 0 then x else x ^^^ (-1)
def erB (n : Int) (x : Int64) : Int64 := if n = 0 then x else (x ^^^ (-1)) &&& 4294967295
theorem ed_SB {a b c d : Int64} (n : Int) (h : SB a b c d) (hv : SV a b) : SB (edA n a) (edB n b) (erA n c) (erB n d) ∧ SV (edA n a) (edB n b) := by
  unfold edA edB erA erB
  split
  · exact ⟨h, hv⟩
  · exact ⟨SB_all (SB_not h.1), SV_and SV_all _ _⟩
/-- the class's: what is left when the operand is joined -/
theorem sp_25t {V : ev_St} (hk : k < 128) (v67 : V.1 6 7 = (k : Int)) {U : ev_St} (h24 : jm_24 Q U = some (1, V)) : jm_25 Q U = if k = 0 then some (1, ev_pI (ev_pL (ev_pL V 6 11 (edA (V.1 12 k) (V.2.1 7 k))) 6 12 (edB (V.1 12 k) (V.2.1 8 k))) 6 7 ((k : Int) - 1)) else ev_bd (jm_22 Q (edA (V.1 12 k) (V.2.1 7 k)) (edB (V.1 12 k) (V.2.1 8 k)) (ev_pI (ev_pL (ev_pL V 6 11 (edA (V.1 12 k) (V.2.1 7 k))) 6 12 (edB (V.1 12 k) (V.2.1 8 k))) 6 7 ((k : Int) - 1))) fun x26 s25 => if x26 = 0 then (some (0, s25)) else (some (1, s25)) := by
  obtain ⟨l7, l8, l9, l10, l11, l12, l13⟩ := al_C
  have fin : ∀ a b : Int64, (ev_b ((ev_pL (ev_pL V 6 11 a) 6 12 b).1 6 7) fun x18 => ev_ck (x18 - 1) fun x19 => ev_b (ev_pI (ev_pL (ev_pL V 6 11 a) 6 12 b) 6 7 x19) fun s20 => ev_b (s20.1 6 7) fun x21 => if x21 < 0 then (some ((1 : Int), s20)) else (ev_b (s20.2.1 6 11) fun y23 => ev_b (s20.2.1 6 12) fun y24 => ev_bd (jm_22 Q y23 y24 s20) fun x26 s25 => if x26 = 0 then (some (0, s25)) else (some (1, s25)))) = if k = 0 then some (1, ev_pI (ev_pL (ev_pL V 6 11 a) 6 12 b) 6 7 ((k : Int) - 1)) else ev_bd (jm_22 Q a b (ev_pI (ev_pL (ev_pL V 6 11 a) 6 12 b) 6 7 ((k : Int) - 1))) fun x26 s25 => if x26 = 0 then (some (0, s25)) else (some (1, s25)) := fun a b => by
    have q : (ev_pL (ev_pL V 6 11 a) 6 12 b).1 6 7 = (k : Int) := v67
    rw [q, sp_b, sp_ck (by omega), sp_b, rd_eq, sp_b]
    by_cases e : k = 0
    · rw [if_pos (by omega), if_pos e]
    · rw [if_neg (by omega), if_neg e, sp_b, sp_b]
      rw [show (ev_pI (ev_pL (ev_pL V 6 11 a) 6 12 b) 6 7 ((k : Int) - 1)).2.1 6 11 = a from (rdL_nf (by omega)).trans rd_L, show (ev_pI (ev_pL (ev_pL V 6 11 a) 6 12 b) 6 7 ((k : Int) - 1)).2.1 6 12 = b from rd_L]
  unfold jm_25
  rw [h24, sp_bd, if_pos (by decide), sp_b, v67, sp_if (by rw [l12]; omega), sp_b, Int.toNat_natCast, sp_jn]
  have second : ∀ a : Int64, (ev_b ((ev_pL V 6 11 a).1 6 7) fun x11 => ev_if ((0 : Int) ≤ x11 ∧ x11 < (ev_aln 12 : Int)) (ev_b ((ev_pL V 6 11 a).1 12 (Int.toNat x11)) fun x12 => ev_jn (fun (y13 : Int64) (s16 : ev_St) => ev_b (ev_pL s16 6 12 y13) fun s17 => ev_b (s17.1 6 7) fun x18 => ev_ck (x18 - 1) fun x19 => ev_b (ev_pI s17 6 7 x19) fun s20 => ev_b (s20.1 6 7) fun x21 => if x21 < 0 then (some ((1 : Int), s20)) else (ev_b (s20.2.1 6 11) fun y23 => ev_b (s20.2.1 6 12) fun y24 => ev_bd (jm_22 Q y23 y24 s20) fun x26 s25 => if x26 = 0 then (some (0, s25)) else (some (1, s25)))) fun K96 => if x12 = 0 then (ev_b ((ev_pL V 6 11 a).1 6 7) fun x29 => ev_if ((0 : Int) ≤ x29 ∧ x29 < (ev_aln 8 : Int)) (ev_b ((ev_pL V 6 11 a).2.1 8 (Int.toNat x29)) fun y30 => K96 y30 (ev_pL V 6 11 a))) else (ev_b ((ev_pL V 6 11 a).1 6 7) fun x31 => ev_if ((0 : Int) ≤ x31 ∧ x31 < (ev_aln 8 : Int)) (ev_b ((ev_pL V 6 11 a).2.1 8 (Int.toNat x31)) fun y32 => ev_b (y32 ^^^ (-1)) fun y33 => ev_b ((9223372036854775807) &&& y33) fun y34 => K96 y34 (ev_pL V 6 11 a))))) = if k = 0 then some (1, ev_pI (ev_pL (ev_pL V 6 11 a) 6 12 (edB (V.1 12 k) (V.2.1 8 k))) 6 7 ((k : Int) - 1)) else ev_bd (jm_22 Q a (edB (V.1 12 k) (V.2.1 8 k)) (ev_pI (ev_pL (ev_pL V 6 11 a) 6 12 (edB (V.1 12 k) (V.2.1 8 k))) 6 7 ((k : Int) - 1))) fun x26 s25 => if x26 = 0 then (some (0, s25)) else (some (1, s25)) := fun a => by
    have q : (ev_pL V 6 11 a).1 6 7 = (k : Int) := v67
    rw [q, sp_b, sp_if (by rw [l12]; omega), sp_b, Int.toNat_natCast, sp_jn, show (ev_pL V 6 11 a).1 12 k = V.1 12 k from rfl]
    unfold edB
    by_cases e : V.1 12 k = 0
    · rw [if_pos e, if_pos e, sp_b, sp_if (by rw [l8]; omega), sp_b, Int.toNat_natCast, show (ev_pL V 6 11 a).2.1 8 k = V.2.1 8 k from rdL_nk (by omega)]
      dsimp only
      rw [sp_b]
      exact fin _ _
    · rw [if_neg e, if_neg e, sp_b, sp_if (by rw [l8]; omega), sp_b, sp_b, sp_b, Int.toNat_natCast, show (ev_pL V 6 11 a).2.1 8 k = V.2.1 8 k from rdL_nk (by omega)]
      dsimp only
      rw [sp_b]
      exact fin _ _
  by_cases e : V.1 12 k = 0
  · rw [if_pos e, sp_b, sp_if (by rw [l7]; omega), sp_b, Int.toNat_natCast]
    dsimp only
    rw [sp_b, second, show edA (V.1 12 k) (V.2.1 7 k) = V.2.1 7 k from if_pos e]
  · rw [if_neg e, sp_b, sp_if (by rw [l7]; omega), sp_b, sp_b, sp_b, Int.toNat_natCast]
    dsimp only
    rw [sp_b, second, show edA (V.1 12 k) (V.2.1 7 k) = _ from if_neg e]
/-- "]" -/
theorem el_close (hC : CRel k w S T) (hc : sp_at S w (rpos T) = 93) : EL Q k w S T := by
  have hk := (CRel_k hC).1
  obtain ⟨z1, z2, z3, z4⟩ := CRel_b hC
  obtain ⟨⟨c1, c2, c3⟩, c4, ⟨c5, c6, c7⟩, c8, c9, c10⟩ := hC
  obtain ⟨r1, r2, r3, r4, r5, r6, r7⟩ := al_R
  have tx := c1
  unfold isTx at tx
  have hk0 := c10 k (Nat.le_refl _)
  have hin := at_in (S := S) (w := w) (p := rpos T) (by omega) (by rw [hc]; decide)
  have s11 : T.1 656 k = 0 ∨ T.1 656 k = 1 := hk0.2.2.1.2
  have e11 : S.1 11 k = T.1 656 k := hk0.2.2.1.1
  have s12 : T.1 655 k = 0 ∨ T.1 655 k = 1 := hk0.2.2.2.1.2
  have e12 : S.1 12 k = T.1 655 k := hk0.2.2.2.1.1
  obtain ⟨q1, q2⟩ := CL_join hk0
  obtain ⟨T1, t1, t2, t3, t4, t5, t6, t7, t8, t9, t10⟩ := sp_248 (Q := Q) (k := k) (T := T) (by omega) c8 s11
  have e28 : T1.1 621 28 = T.1 621 28 := t8 _ _ (by omega) (by omega)
  have rp1 : rpos T1 = rpos T := rpos_c e28 (fun g => t8 645 g (by omega) (by omega))
  rw [← t3, ← t4] at q1
  obtain ⟨q3, q4⟩ := ed_SB (T.1 655 k) q1 q2
  -- the reference's turn
  have bR : ∀ K, jb_253_7 Q K (k : Int) T = if k = 0 then K (-1) (ev_pI (ev_pL (ev_pL T1 621 41 (erA (T.1 655 k) (T1.2.1 651 k))) 621 42 (erB (T.1 655 k) (T1.2.1 652 k))) 645 (T.1 621 28).toNat (rpos T + 1)) else ev_bd (jm_249 Q ((k - 1 : Nat) : Int) (ev_pI (ev_pL (ev_pL T1 621 41 (erA (T.1 655 k) (T1.2.1 651 k))) 621 42 (erB (T.1 655 k) (T1.2.1 652 k))) 645 (T.1 621 28).toNat (rpos T + 1))) fun _ s => K ((k - 1 : Nat) : Int) s := fun K => by
    have g : ∀ a b : Int64, jm_234 Q 1 (ev_pL (ev_pL T1 621 41 a) 621 42 b) = some ((), ev_pI (ev_pL (ev_pL T1 621 41 a) 621 42 b) 645 (T.1 621 28).toNat (rpos T + 1)) := fun a b => by
      have e1 : (ev_pL (ev_pL T1 621 41 a) 621 42 b).1 621 28 = T.1 621 28 := e28
      have e2 : rpos (ev_pL (ev_pL T1 621 41 a) 621 42 b) = rpos T := rp1
      rw [sp_234 (by rw [e1]; exact z4) (by rw [e2]; omega), e1, e2]
    have fin : ∀ a b : Int64, (ev_b (ev_pL (ev_pL T1 621 41 a) 621 42 b) fun s150 => ev_bd (jm_234 Q 1 s150) fun _ s151 => ev_ck ((k : Int) + (-1)) fun x152 => if x152 < 0 then (K x152 s151) else (ev_bd (jm_249 Q x152 s151) fun _ s154 => K x152 s154)) = if k = 0 then K (-1) (ev_pI (ev_pL (ev_pL T1 621 41 a) 621 42 b) 645 (T.1 621 28).toNat (rpos T + 1)) else ev_bd (jm_249 Q ((k - 1 : Nat) : Int) (ev_pI (ev_pL (ev_pL T1 621 41 a) 621 42 b) 645 (T.1 621 28).toNat (rpos T + 1))) fun _ s => K ((k - 1 : Nat) : Int) s := fun a b => by
      rw [sp_b, g, sp_bd, sp_ck (by omega)]
      by_cases e : k = 0
      · rw [if_pos e, if_pos (by omega), show (k : Int) + (-1) = -1 from by omega]
      · rw [if_neg e, if_neg (by omega), show (k : Int) + (-1) = ((k - 1 : Nat) : Int) from by omega]
    unfold jb_253_7
    rw [if_neg (by omega), sp_b, c8, if_neg (fun z => z rfl), sp_233 c4 (by omega), sp_bd, sp_233 c4 (by omega), sp_bd, sp_250 c4 (by omega) (by omega), sp_bd, sp_jn, show rpos T + 0 = rpos T from by omega, hc, if_neg (fun z => z rfl), t1, sp_bd, sp_if (by rw [r5]; omega), sp_b, Int.toNat_natCast, t8 655 k (by omega) (by omega), sp_jn]
    have second : ∀ a : Int64, (ev_b (ev_pL T1 621 41 a) fun s143 => ev_if ((0 : Int) ≤ (k : Int) ∧ (k : Int) < (ev_aln 655 : Int)) (ev_b (s143.1 655 k) fun x144 => ev_jn (fun (y145 : Int64) (s149 : ev_St) => ev_b (ev_pL s149 621 42 y145) fun s150 => ev_bd (jm_234 Q 1 s150) fun _ s151 => ev_ck ((k : Int) + (-1)) fun x152 => if x152 < 0 then (K x152 s151) else (ev_bd (jm_249 Q x152 s151) fun _ s154 => K x152 s154)) fun K113 => if x144 = 0 then (ev_if ((0 : Int) ≤ (k : Int) ∧ (k : Int) < (ev_aln 652 : Int)) (ev_b (s143.2.1 652 k) fun y156 => K113 y156 s143)) else (ev_if ((0 : Int) ≤ (k : Int) ∧ (k : Int) < (ev_aln 652 : Int)) (ev_b (s143.2.1 652 k) fun y157 => ev_b (y157 ^^^ (-1)) fun y158 => ev_b (y158 &&& (4294967295)) fun y159 => K113 y159 s143)))) = if k = 0 then K (-1) (ev_pI (ev_pL (ev_pL T1 621 41 a) 621 42 (erB (T.1 655 k) (T1.2.1 652 k))) 645 (T.1 621 28).toNat (rpos T + 1)) else ev_bd (jm_249 Q ((k - 1 : Nat) : Int) (ev_pI (ev_pL (ev_pL T1 621 41 a) 621 42 (erB (T.1 655 k) (T1.2.1 652 k))) 645 (T.1 621 28).toNat (rpos T + 1))) fun _ s => K ((k - 1 : Nat) : Int) s := fun a => by
      rw [sp_b, sp_if (by rw [r5]; omega), sp_b, sp_jn, show (ev_pL T1 621 41 a).1 655 k = T.1 655 k from t8 655 k (by omega) (by omega), show (ev_pL T1 621 41 a).2.1 652 k = T1.2.1 652 k from rdL_nk (by omega)]
      unfold erB
      by_cases e : T.1 655 k = 0
      · rw [if_pos e, if_pos e, sp_if (by rw [r2]; omega), sp_b]
        exact fin _ _
      · rw [if_neg e, if_neg e, sp_if (by rw [r2]; omega), sp_b, sp_b, sp_b]
        exact fin _ _
    by_cases e : T.1 655 k = 0
    · rw [if_pos e, sp_if (by rw [r1]; omega), sp_b]
      dsimp only
      rw [second, show erA (T.1 655 k) (T1.2.1 651 k) = T1.2.1 651 k from if_pos e]
    · rw [if_neg e, sp_if (by rw [r1]; omega), sp_b, sp_b]
      dsimp only
      rw [second, show erA (T.1 655 k) (T1.2.1 651 k) = _ from if_neg e]
  -- the class's
  have bC : jm_21 Q S = ev_bd (jm_25 Q (ev_pI S 6 9 (rpos T + 1))) fun x62 s61 => ev_if (ev_bl x62) (some (x62, s61)) := by
    unfold jm_21
    rw [c3, sp_b, sp_b, c5, sp_if (by omega), show w + 1 - 1 = w from rfl, sp_151 z1 (by omega), sp_bd, c3, sp_b, sp_b, c5, sp_ck (by omega), sp_if (by omega), show w + 1 - 1 = w from rfl, sp_151 z1 (by omega), sp_bd, hc, if_neg (fun z => z rfl), sp_b, c5, sp_ck (by omega), sp_b]
  have s67 : (ev_pI S 6 9 (rpos T + 1)).1 6 7 = (k : Int) := by rw [rd_nf (by omega), c2]
  have s611 : (ev_pI S 6 9 (rpos T + 1)).1 11 k = S.1 11 k := rd_nk (by omega)
  by_cases h0 : T.1 656 k = 0
  · have b25 : T1.1 621 25 = 1 := by rw [t2, if_pos h0]
    have u25 : ∀ a b : Int64, (ev_pI (ev_pL (ev_pL T1 621 41 a) 621 42 b) 645 (T.1 621 28).toNat (rpos T + 1)).1 621 25 = 1 := fun a b => by
      rw [rd_nk (by omega)]
      exact b25
    have red : jm_21 Q S = some (0, ev_pI S 6 9 (rpos T + 1)) := by
      rw [bC]
      unfold jm_25
      rw [sp_24_0 s67 (by omega) (by rw [s611, e11, h0]), sp_bd, if_neg (fun z => z rfl), sp_bd, sp_if (Or.inl rfl)]
    by_cases e : k = 0
    · refine Or.inl ⟨_, red, -1, _, fun K => (bR K).trans (if_pos e), ?_⟩
      rw [u25]
      decide
    · refine Or.inl ⟨_, red, ((k - 1 : Nat) : Int), ev_pI (ev_pL (ev_pL (ev_pI (ev_pL (ev_pL T1 621 41 (erA (T.1 655 k) (T1.2.1 651 k))) 621 42 (erB (T.1 655 k) (T1.2.1 652 k))) 645 (T.1 621 28).toNat (rpos T + 1)) 653 (k - 1) ((ev_pI (ev_pL (ev_pL T1 621 41 (erA (T.1 655 k) (T1.2.1 651 k))) 621 42 (erB (T.1 655 k) (T1.2.1 652 k))) 645 (T.1 621 28).toNat (rpos T + 1)).2.1 653 (k - 1) ||| (ev_pI (ev_pL (ev_pL T1 621 41 (erA (T.1 655 k) (T1.2.1 651 k))) 621 42 (erB (T.1 655 k) (T1.2.1 652 k))) 645 (T.1 621 28).toNat (rpos T + 1)).2.1 621 41)) 654 (k - 1) ((ev_pI (ev_pL (ev_pL T1 621 41 (erA (T.1 655 k) (T1.2.1 651 k))) 621 42 (erB (T.1 655 k) (T1.2.1 652 k))) 645 (T.1 621 28).toNat (rpos T + 1)).2.1 654 (k - 1) ||| (ev_pI (ev_pL (ev_pL T1 621 41 (erA (T.1 655 k) (T1.2.1 651 k))) 621 42 (erB (T.1 655 k) (T1.2.1 652 k))) 645 (T.1 621 28).toNat (rpos T + 1)).2.1 621 42)) 656 (k - 1) 1, fun K => ?_, ?_⟩
      · rw [bR, if_neg e, sp_249 (by omega), sp_bd]
      · rw [rd_nk (by omega), sp_pL1, sp_pL1, u25]
        decide
  · have w67 : (ev_pL (ev_pL (ev_pI S 6 9 (rpos T + 1)) 7 k (jnL (S.1 13 k) (S.2.1 7 k) (S.2.1 9 k))) 8 k (jnL (S.1 13 k) (S.2.1 8 k) (S.2.1 10 k))).1 6 7 = (k : Int) := s67
    have w12 : (ev_pL (ev_pL (ev_pI S 6 9 (rpos T + 1)) 7 k (jnL (S.1 13 k) (S.2.1 7 k) (S.2.1 9 k))) 8 k (jnL (S.1 13 k) (S.2.1 8 k) (S.2.1 10 k))).1 12 k = T.1 655 k := by
      rw [sp_pL1, sp_pL1, rd_nk (by omega), e12]
    have w7 : (ev_pL (ev_pL (ev_pI S 6 9 (rpos T + 1)) 7 k (jnL (S.1 13 k) (S.2.1 7 k) (S.2.1 9 k))) 8 k (jnL (S.1 13 k) (S.2.1 8 k) (S.2.1 10 k))).2.1 7 k = jnL (S.1 13 k) (S.2.1 7 k) (S.2.1 9 k) := (rdL_nk (by omega)).trans rd_L
    have w8 : (ev_pL (ev_pL (ev_pI S 6 9 (rpos T + 1)) 7 k (jnL (S.1 13 k) (S.2.1 7 k) (S.2.1 9 k))) 8 k (jnL (S.1 13 k) (S.2.1 8 k) (S.2.1 10 k))).2.1 8 k = jnL (S.1 13 k) (S.2.1 8 k) (S.2.1 10 k) := rd_L
    have wf1 : ∀ a g, ¬ (a = 6 ∧ g = 9) → (ev_pL (ev_pL (ev_pI S 6 9 (rpos T + 1)) 7 k (jnL (S.1 13 k) (S.2.1 7 k) (S.2.1 9 k))) 8 k (jnL (S.1 13 k) (S.2.1 8 k) (S.2.1 10 k))).1 a g = S.1 a g := fun a g h => if_neg h
    have wf9 : (ev_pL (ev_pL (ev_pI S 6 9 (rpos T + 1)) 7 k (jnL (S.1 13 k) (S.2.1 7 k) (S.2.1 9 k))) 8 k (jnL (S.1 13 k) (S.2.1 8 k) (S.2.1 10 k))).1 6 9 = rpos T + 1 := by
      rw [sp_pL1, sp_pL1, rd_eq]
    have wf2 : ∀ a g, ¬ (7 ≤ a ∧ a ≤ 8 ∧ g = k) → (ev_pL (ev_pL (ev_pI S 6 9 (rpos T + 1)) 7 k (jnL (S.1 13 k) (S.2.1 7 k) (S.2.1 9 k))) 8 k (jnL (S.1 13 k) (S.2.1 8 k) (S.2.1 10 k))).2.1 a g = S.2.1 a g := fun a g h => by
      rw [sp_pL2, if_neg (by omega), sp_pL2, if_neg (by omega)]
      rfl
    have wf3 : (ev_pL (ev_pL (ev_pI S 6 9 (rpos T + 1)) 7 k (jnL (S.1 13 k) (S.2.1 7 k) (S.2.1 9 k))) 8 k (jnL (S.1 13 k) (S.2.1 8 k) (S.2.1 10 k))).2.2 = S.2.2 := rfl
    have g25 := sp_25t (Q := Q) (by omega) w67 (U := ev_pI S 6 9 (rpos T + 1)) (by
      rw [sp_24_1 s67 (by omega) (by rw [s611, e11]; exact h0), show (ev_pI S 6 9 (rpos T + 1)).1 13 k = S.1 13 k from rd_nk (by omega)]
      rfl)
    generalize ev_pL (ev_pL (ev_pI S 6 9 (rpos T + 1)) 7 k (jnL (S.1 13 k) (S.2.1 7 k) (S.2.1 9 k))) 8 k (jnL (S.1 13 k) (S.2.1 8 k) (S.2.1 10 k)) = V at *
    rw [w12, w7, w8] at g25
    generalize edA (T.1 655 k) (jnL (S.1 13 k) (S.2.1 7 k) (S.2.1 9 k)) = la at *
    generalize edB (T.1 655 k) (jnL (S.1 13 k) (S.2.1 8 k) (S.2.1 10 k)) = lh at *
    generalize erA (T.1 655 k) (T1.2.1 651 k) = ra at *
    generalize erB (T.1 655 k) (T1.2.1 652 k) = rh at *
    have T25 : T1.1 621 25 = 0 := by rw [t2, if_neg h0]
    have rp2 : rpos (ev_pI (ev_pL (ev_pL T1 621 41 ra) 621 42 rh) 645 (T.1 621 28).toNat (rpos T + 1)) = rpos T + 1 := rpos_pI e28
    have r41 : (ev_pI (ev_pL (ev_pL T1 621 41 ra) 621 42 rh) 645 (T.1 621 28).toNat (rpos T + 1)).2.1 621 41 = ra := (rdL_nf (by omega)).trans rd_L
    have r42 : (ev_pI (ev_pL (ev_pL T1 621 41 ra) 621 42 rh) 645 (T.1 621 28).toNat (rpos T + 1)).2.1 621 42 = rh := rd_L
    have r25 : (ev_pI (ev_pL (ev_pL T1 621 41 ra) 621 42 rh) 645 (T.1 621 28).toNat (rpos T + 1)).1 621 25 = 0 := by
      rw [rd_nk (by omega)]
      exact T25
    have x67 : (ev_pI (ev_pL (ev_pL V 6 11 la) 6 12 lh) 6 7 ((k : Int) - 1)).1 6 7 = (k : Int) - 1 := rd_eq
    have x69 : (ev_pI (ev_pL (ev_pL V 6 11 la) 6 12 lh) 6 7 ((k : Int) - 1)).1 6 9 = rpos T + 1 := by
      rw [rd_nf (by omega)]
      exact wf9
    have x611 : (ev_pI (ev_pL (ev_pL V 6 11 la) 6 12 lh) 6 7 ((k : Int) - 1)).2.1 6 11 = la := (rdL_nf (by omega)).trans rd_L
    have x612 : (ev_pI (ev_pL (ev_pL V 6 11 la) 6 12 lh) 6 7 ((k : Int) - 1)).2.1 6 12 = lh := rd_L
    by_cases e : k = 0
    · refine Or.inr (Or.inr ⟨ev_pI (ev_pL (ev_pL V 6 11 la) 6 12 lh) 6 7 ((k : Int) - 1), ev_pI (ev_pL (ev_pL T1 621 41 ra) 621 42 rh) 645 (T.1 621 28).toNat (rpos T + 1), ?_, fun K => (bR K).trans (if_pos e), ?_, ?_, ?_, ?_, r25, ?_, ?_, by rw [rp2, cxp_close hc], by unfold cxk; rw [if_pos hc, e]; rfl⟩)
      · rw [bC, g25, if_pos e, sp_bd, sp_if (Or.inr rfl)]
      · rw [x67]
        omega
      · rw [x611, x612, r41, r42]
        exact q3
      · rw [x611, x612]
        exact q4
      · rw [x69, rp2]
      · rw [rp2]
        omega
      · rw [rp2]
        omega
    · rw [if_neg e] at g25
      have xf1 : ∀ a g, ¬ (a = 6 ∧ (g = 7 ∨ g = 9)) → (ev_pI (ev_pL (ev_pL V 6 11 la) 6 12 lh) 6 7 ((k : Int) - 1)).1 a g = S.1 a g := fun a g h => by
        rw [sp_pI1, if_neg (by omega), sp_pL1, sp_pL1, wf1 a g (by omega)]
      have xf2 : ∀ a g, ¬ (7 ≤ a ∧ a ≤ 8 ∧ g = k) → ¬ (a = 6) → (ev_pI (ev_pL (ev_pL V 6 11 la) 6 12 lh) 6 7 ((k : Int) - 1)).2.1 a g = S.2.1 a g := fun a g h h2 => by
        show (ev_pL (ev_pL V 6 11 la) 6 12 lh).2.1 a g = _
        rw [sp_pL2, if_neg (by omega), sp_pL2, if_neg (by omega), wf2 a g h]
      have xf3 : (ev_pI (ev_pL (ev_pL V 6 11 la) 6 12 lh) 6 7 ((k : Int) - 1)).2.2 = S.2.2 := wf3
      generalize ev_pI (ev_pL (ev_pL V 6 11 la) 6 12 lh) 6 7 ((k : Int) - 1) = X at *
      have hC1 : CRel (k - 1) w (ev_pI X 6 9 (rpos T)) T1 := by
        refine ⟨⟨c1, ?_, ?_⟩, ?_, ⟨?_, ?_, ?_⟩, T25, ?_, fun i hi => ?_⟩
        · rw [rd_nf (by omega), x67]
          omega
        · show X.2.2.1 6 8 = _
          rw [xf3, c3]
        · refine RT_c (RT_cS c4 (fun g => ?_) (fun g => ?_)) (fun a g ha => t8 a g (by omega) (by omega))
          · rw [rd_nk (by omega), xf1 w g (by omega)]
          · rw [rd_nk (by omega), xf1 _ g (by omega)]
        · rw [rd_eq, rp1]
        · rw [rp1]
          omega
        · rw [rp1, rd_nk (by omega), xf1 w 1 (by omega)]
          exact c7
        · rw [rd_nf (by omega), xf1 6 10 (by omega), t8 621 40 (by omega) (by omega)]
          exact c9
        · refine CL_c (c10 i (by omega)) (fun a h1 h2 => ?_) (fun a h1 h2 => ?_) (fun a h1 h2 => t8 a i (by omega) (by omega)) (fun a h1 h2 => t9 a i (by omega))
          · rw [rd_nk (by omega), xf1 a i (by omega)]
          · exact xf2 a i (by omega) (by omega)
      obtain ⟨S', T', m1, m2, m3, m4⟩ := CR_put (Q := Q) (l := la) (h := lh) hC1 (T1 := ev_pI (ev_pL (ev_pL T1 621 41 ra) 621 42 rh) 645 (T.1 621 28).toNat (rpos T + 1)) (by rw [r41, r42]; exact q3) q4 (S1 := X) (fun a g h => (if_neg h).symm) rfl (fun a g h1 h2 => by
        rw [sp_pI1, if_neg (by rw [← e28]; exact h1), sp_pL1, sp_pL1]) (fun a g h => by
        show (ev_pL (ev_pL T1 621 41 ra) 621 42 rh).2.1 a g = _
        rw [sp_pL2, if_neg (by omega), sp_pL2, if_neg (by omega)]) rfl r25 (by rw [x69, rp2]) (by
        rw [rp1, rp2, rd_nk (by omega), xf1 w 1 (by omega)]
        omega)
      refine Or.inr (Or.inl ⟨k - 1, S', T', ?_, fun K => ?_, m3, by rw [m4, rp2]; omega, by rw [m4, rp2, cxp_close hc], by unfold cxk; rw [if_pos hc]; omega⟩)
      · rw [bC, g25, m1, sp_bd, if_neg (by decide), sp_bd, sp_if (Or.inr rfl)]
      · rw [bR, if_neg e, m2, sp_bd]
end ELEM4
