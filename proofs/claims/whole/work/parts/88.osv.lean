/-! ASSEMBLY: a call, whatever it is -/
section OSV
variable {Q L j k : Nat} {xs : Nat → Int32} {S : ev_St}
/-- still to be put into the parts before (M1 to M4) -/
def HSGp : Prop := ∀ (n : Int) (D : lg_D) (S : ev_St), LG n D S → SG S
def H3p : Prop := ∀ (Q L j : Nat) (xs : Nat → Int32) (S : ev_St), QBp Q → sp_DR S → sp_PA S → sp_PT S → L ≤ 3072 → j + 6 ≤ L → ∃ S2, (∀ K, ja_313 Q L xs K S = K S2) ∧ sp_DR S2 ∧ sp_PA S2 ∧ sp_PT S2 ∧ sp_H sp_W3 S S2 ∧ (sp_ZR S → sp_ZR S2) ∧ S.1 0 5 ≤ S2.1 0 5 ∧ ∀ p : Nat, (p : Int) < S.1 0 5 → (∀ c g, 313 + 20 * p ≤ c → c ≤ 313 + 20 * p + 19 → S2.1 c g = S.1 c g ∧ S2.2.1 c g = S.2.1 c g) ∧ ∀ c g, 662 ≤ c → c ≤ 664 → 210 * p ≤ g → g < 210 * p + 210 → S2.1 c g = S.1 c g
def H4p : Prop := ∀ (Q L j : Nat) (xs : Nat → Int32) (S : ev_St), 1000000 ≤ Q → sp_DR S → sp_TR S → L ≤ 3072 → j + 6 ≤ L → ∃ S2, (∀ K, ja_357 Q L xs K S = K S2) ∧ sp_DR S2 ∧ sp_TR S2 ∧ sp_F sp_Wt S S2 ∧ S.1 0 7 ≤ S2.1 0 7
def H12p : Prop := ∀ (Q L j B : Nat) (xs : Nat → Int32) (S : ev_St), HSIM Q S → 1000000 ≤ Q → sp_PT S → sp_BR S → SG S → (∀ b, b < 3 → S.1 (263 + 2 * b) 1 ≤ 80) → THn 284 20 B S → THn 294 1 B S → B ≤ 1999999000 → L ≤ 3072 → j + 6 ≤ L → ∃ S2, (∀ K, ja_896 Q L xs (j : Int) K S = K S2) ∧ sp_FE S S2 ∧ THn 284 20 (B + 90) S2 ∧ THn 294 1 (B + 90) S2
theorem step (pSG : HSGp) (p3 : H3p) (p4 : H4p) (p12 : H12p) (hQ : QBp Q) (hQ2 : 40000000000 ≤ Q) (hL : L ≤ 3072) (hj : j + 6 ≤ L) (hk : k ≤ 511) (h : INV k S) : ∀ o : Nat, o < 64 → ∃ S2, INV (k + 1) S2 ∧ ∀ K : ev_St → Option (Int × ev_St), la_arm o (Q + 600) L xs (j : Int) K S = K S2 := by
  have h0 := h
  obtain ⟨D, ⟨hDR, hPA, hPT, hTR⟩, ⟨hLG, hB8, hRR, hRM⟩, ⟨hT1, hT2⟩, ⟨hST, hZR⟩, _, _⟩ := h
  have hG : SG S := pSG _ _ _ hLG
  have hB : sp_BR S := hLG.2.1.2.2.2.1
  have hM : sp_MR S := hLG.2.1.2.2.2.2.1
  have q6 : 1000000 ≤ Q + 600 := by omega
  have q4 : 40000000000 ≤ Q + 600 := by omega
  have q400 : 400 ≤ Q + 600 := by omega
  have qB : QBp (Q + 600) := ⟨by have := hQ.1; omega, by omega⟩
  have hS := HSIM_ok (Q := Q + 600) hPT hB hG q4
  have k5 : (0 : Int) ≤ (k : Int) ∧ (k : Int) ≤ 511 := by omega
  intro o ho
  match o, ho with
  | 0, _ =>
    obtain ⟨S2, e, c1, hF⟩ := op_0 (Q := Q) (xs := xs) hDR hL hj
    exact ⟨S2, st_0 h0 c1 hF, e⟩
  | 1, _ =>
    obtain ⟨S2, e, c1, hF⟩ := op_1 (L := L) (Q := Q + 600) (xs := xs) hDR
    exact ⟨S2, st_0 h0 c1 hF, e⟩
  | 2, _ =>
    obtain ⟨S2, e, c1, c2, hF⟩ := op_2 (Q := Q + 600) (xs := xs) q6 hDR hPA hL hj
    exact ⟨S2, st_2 h0 c1 c2 hF, e⟩
  | 3, _ =>
    obtain ⟨S2, e, c1, c2, c3, hF, c12, h5, hp⟩ := p3 (Q + 600) L j xs S qB hDR hPA hPT hL hj
    exact ⟨S2, st_3 h0 c1 c2 c3 c12 h5 hp hF, e⟩
  | 4, _ =>
    obtain ⟨S2, e, c1, c4, hF, h7⟩ := p4 (Q + 600) L j xs S q6 hDR hTR hL hj
    exact ⟨S2, st_t h0 c1 c4 h7 hF, e⟩
  | 5, _ =>
    obtain ⟨S2, e, hF⟩ := op_5 (Q := Q + 600) (xs := xs) hPT hL hj
    exact ⟨S2, st_c h0 hF, e⟩
  | 6, _ =>
    obtain ⟨S2, e, hF⟩ := op_6 (Q := Q + 600) (xs := xs) hPT hL hj
    exact ⟨S2, st_c h0 hF, e⟩
  | 7, _ =>
    obtain ⟨S2, e, hF⟩ := op_7 (Q := Q + 600) (xs := xs) q6 hPT hL hj
    exact ⟨S2, st_7 h0 hF, e⟩
  | 8, _ =>
    obtain ⟨S2, e, hF⟩ := op_8 (Q := Q + 600) (xs := xs) q6 hPT hL hj
    exact ⟨S2, st_7 h0 hF, e⟩
  | 9, _ =>
    obtain ⟨S2, e, hF⟩ := op_9 (Q := Q + 600) (xs := xs) q6 hPT hL hj
    exact ⟨S2, st_7 h0 hF, e⟩
  | 10, _ =>
    obtain ⟨S2, e, hF⟩ := op_10 (Q := Q + 600) (xs := xs) hS q400 hPT hB hL hj
    exact ⟨S2, st_s h0 hF, e⟩
  | 11, _ =>
    obtain ⟨S2, e, hF⟩ := op_11 (Q := Q + 600) (xs := xs) hS q400 hPT hB hL hj
    exact ⟨S2, st_s h0 hF, e⟩
  | 12, _ =>
    obtain ⟨S2, e, hF, c9, c10⟩ := p12 (Q + 600) L j (90 * k) xs S hS q6 hPT hB hG hB8.1 hT1 hT2 (by omega) hL hj
    exact ⟨S2, st_e h0 c9 c10 hF, e⟩
  | 13, _ =>
    obtain ⟨S2, e, hF⟩ := op_13 (Q := Q + 600) (xs := xs) hS q400 hPT hB hL hj
    exact ⟨S2, st_s h0 hF, e⟩
  | 14, _ =>
    obtain ⟨S2, e, hF⟩ := op_14 (Q := Q + 600) (xs := xs) hS q400 hPT hB hL hj
    exact ⟨S2, st_s h0 hF, e⟩
  | 15, _ =>
    obtain ⟨S2, e, hF⟩ := op_15 (Q := Q + 600) (xs := xs) hS q400 hPT hB hL hj
    exact ⟨S2, st_s h0 hF, e⟩
  | 16, _ =>
    obtain ⟨S2, e, hF⟩ := op_16 (Q := Q + 600) (xs := xs) hS q400 hPT hB hL hj
    exact ⟨S2, st_s h0 hF, e⟩
  | 17, _ =>
    obtain ⟨D', S2, e, c1, c5, c6, hF⟩ := op_17 (Q := Q + 600) (xs := xs) q6 k5 hDR hLG hB8 hL hj
    exact ⟨S2, st_g h0 c1 c5 c6 hF, e⟩
  | 18, _ =>
    obtain ⟨S2, e, hF⟩ := op_18 (Q := Q + 600) (xs := xs) hB hL hj
    exact ⟨S2, st_c h0 hF, e⟩
  | 19, _ =>
    obtain ⟨S2, e, hF⟩ := op_19 (Q := Q + 600) (xs := xs) hB hL hj
    exact ⟨S2, st_c h0 hF, e⟩
  | 20, _ =>
    obtain ⟨D', S2, e, c5, c6, c7, c8, hF⟩ := op_20 (Q := Q + 600) (xs := xs) q4 k5 hPT hTR hG hLG hB8 hRR hRM hL hj
    exact ⟨S2, st_r h0 c5 c6 c7 c8 hF, e⟩
  | 21, _ =>
    obtain ⟨S2, e, c5, hF⟩ := op_21 (Q := Q + 600) (xs := xs) hB hM hL hj
    exact ⟨S2, st_m h0 c5 hF, e⟩
  | 22, _ =>
    obtain ⟨S2, e, hF⟩ := op_22 (Q := Q + 600) (xs := xs) hM hL hj
    exact ⟨S2, st_c h0 hF, e⟩
  | 23, _ =>
    obtain ⟨S2, e, c5, c6, hF⟩ := op_23L (Q := Q + 600) (xs := xs) hLG hB8 hL hj
    exact ⟨S2, st_l h0 c5 c6 hF, e⟩
  | 24, _ =>
    obtain ⟨S2, e, c5, c6, hF⟩ := op_24L (Q := Q + 600) (xs := xs) (by omega) hLG hB8 hL hj
    exact ⟨S2, st_l h0 c5 c6 hF, e⟩
  | 25, _ =>
    obtain ⟨S2, e, c5, hF⟩ := op_25 (Q := Q + 600) (xs := xs) q6 (by omega) hLG hL hj
    exact ⟨S2, st_u h0 c5 (B8_u hLG c5 hB8 hF) hF, e⟩
  | 26, _ =>
    obtain ⟨S2, e, c5, hF⟩ := op_26 (Q := Q + 600) (xs := xs) q6 (by omega) hLG hL hj
    exact ⟨S2, st_u h0 c5 (B8_u hLG c5 hB8 hF) hF, e⟩
  | 27, _ =>
    obtain ⟨S2, e, c7, hF⟩ := op_27 (Q := Q + 600) (xs := xs) hRR hL hj
    exact ⟨S2, st_q h0 c7 hF, e⟩
  | 28, _ =>
    obtain ⟨D', S2, e, c5, c6, c7, c8, hF⟩ := op_28 (Q := Q + 600) (xs := xs) q4 k5 hPT hTR hG hLG hB8 hRR hRM hL hj
    exact ⟨S2, st_r h0 c5 c6 c7 c8 hF, e⟩
  | 29, _ =>
    obtain ⟨S2, e, hF, c11, c1⟩ := op_29 (Q := Q + 600) (xs := xs) q6 hPT hST hDR hL hj
    exact ⟨S2, st_f h0 c1 c11 hF, e⟩
  | 30, _ =>
    obtain ⟨S2, e, hF, c11, c1⟩ := op_30 (Q := Q + 600) (xs := xs) q6 hPT hZR hST hDR (by omega) hL hj
    exact ⟨S2, st_f h0 c1 c11 hF, e⟩
  | 31, _ =>
    obtain ⟨S2, e, hF, c11, c1⟩ := op_31 (Q := Q + 600) (xs := xs) q6 hPT hZR hST hDR hL hj
    exact ⟨S2, st_f h0 c1 c11 hF, e⟩
  | 32, _ =>
    obtain ⟨S2, e, hF, c11, c1⟩ := op_32 (Q := Q + 600) (xs := xs) q6 hPT hZR hST hDR hL hj
    exact ⟨S2, st_f h0 c1 c11 hF, e⟩
  | o + 33, ho =>
    exact ⟨S, st_c h0 ⟨fun _ _ _ => rfl, fun _ _ _ => rfl, rfl, rfl, rfl, Nat.le_succ _, Nat.le_add_right _ _⟩, fun K => rfl⟩
end OSV
