/-! ASSEMBLY: a call, whatever it is -/
section OSV
variable {Q L j k : Nat} {xs : Nat → Int32} {S : ev_St}
/-- still to be put into the parts before (M1 to M4) -/
def HSGp : Prop := ∀ (n : Int) (D : lg_D) (S : ev_St), LG n D S → SG S
def H3p : Prop := ∀ (Q L j : Nat) (xs : Nat → Int32) (S : ev_St), QBp Q → sp_DR S → sp_PA S → sp_PT S → L ≤ 3072 → j + 6 ≤ L → ∃ S2, (∀ K, ja_313 Q L xs K S = K S2) ∧ sp_DR S2 ∧ sp_PA S2 ∧ sp_PT S2 ∧ sp_H sp_W3 S S2 ∧ (sp_ZR S → sp_ZR S2) ∧ S.1 0 5 ≤ S2.1 0 5 ∧ ∀ p : Nat, (p : Int) < S.1 0 5 → (∀ c g, 313 + 20 * p ≤ c → c ≤ 313 + 20 * p + 19 → S2.1 c g = S.1 c g ∧ S2.2.1 c g = S.2.1 c g) ∧ ∀ c g, 662 ≤ c → c ≤ 664 → 210 * p ≤ g → g < 210 * p + 210 → S2.1 c g = S.1 c g
def H4p : Prop := ∀ (Q L j : Nat) (xs : Nat → Int32) (S : ev_St), 1000000 ≤ Q → sp_DR S → sp_TR S → L ≤ 3072 → j + 6 ≤ L → ∃ S2, (∀ K, ja_357 Q L xs K S = K S2) ∧ sp_DR S2 ∧ sp_TR S2 ∧ sp_F sp_Wt S S2 ∧ S.1 0 7 ≤ S2.1 0 7
def H12p : Prop := ∀ (Q L j B : Nat) (xs : Nat → Int32) (S : ev_St), HSIM Q S → 1000000 ≤ Q → sp_PT S → sp_BR S → SG S → (∀ b, b < 3 → S.1 (263 + 2 * b) 1 ≤ 80) → THn 284 20 B S → THn 294 1 B S → B ≤ 1999999000 → L ≤ 3072 → j + 6 ≤ L → ∃ S2, (∀ K, ja_896 Q L xs (j : Int) K S = K S2) ∧ sp_FE S S2 ∧ THn 284 20 (B + 90) S2 ∧ THn 294 1 (B + 90) S2

theorem step_0 (pSG : HSGp) (p3 : H3p) (p4 : H4p) (p12 : H12p) (hQ : QBp Q) (hQ2 : 40000000000 ≤ Q) (hL : L ≤ 3072) (hj : j + 6 ≤ L) (hk : k ≤ 511) (h : INV k S) : ∃ S2, INV (k + 1) S2 ∧ ∀ K : ev_St → Option (Int × ev_St), la_arm 0 (Q + 600) L xs (j : Int) K S = K S2 := by
  have h0 := h
  obtain ⟨D, ⟨hDR, hPA, hPT, hTR⟩, ⟨hLG, hB8, hRR, hRM⟩, ⟨hT1, hT2⟩, ⟨hST, hZR⟩, _, _⟩ := h
  have hG : SG S := pSG _ _ _ hLG
  have hB : sp_BR S := hLG.2.1.2.2.2.1
  have hM : sp_MR S := hLG.2.1.2.2.2.2.1
  have q6 : 1000000 ≤ Q + 600 := by omega
  have q4 : 40000000000 ≤ Q + 600 := by omega
  have q400 : 400 ≤ Q + 600 := by omega
  have qB : QBp (Q + 600) := ⟨Nat.le_trans hQ.1 (Nat.le_add_right _ _), q6⟩
  have hS := HSIM_ok (Q := Q + 600) hPT hB hG q4
  have k5 : (0 : Int) ≤ (k : Int) ∧ (k : Int) ≤ 511 := by omega
  obtain ⟨S2, e, c1, hF⟩ := op_0 (Q := Q) (xs := xs) hDR hL hj
  refine ⟨S2, st_0 h0 c1 hF, fun K => ?_⟩
  rw [← la_chain_k 0 (by decide)]
  unfold la_chain
  rw [if_pos (by decide)]
  exact e K
theorem step_1 (pSG : HSGp) (p3 : H3p) (p4 : H4p) (p12 : H12p) (hQ : QBp Q) (hQ2 : 40000000000 ≤ Q) (hL : L ≤ 3072) (hj : j + 6 ≤ L) (hk : k ≤ 511) (h : INV k S) : ∃ S2, INV (k + 1) S2 ∧ ∀ K : ev_St → Option (Int × ev_St), la_arm 1 (Q + 600) L xs (j : Int) K S = K S2 := by
  have h0 := h
  obtain ⟨D, ⟨hDR, hPA, hPT, hTR⟩, ⟨hLG, hB8, hRR, hRM⟩, ⟨hT1, hT2⟩, ⟨hST, hZR⟩, _, _⟩ := h
  have hG : SG S := pSG _ _ _ hLG
  have hB : sp_BR S := hLG.2.1.2.2.2.1
  have hM : sp_MR S := hLG.2.1.2.2.2.2.1
  have q6 : 1000000 ≤ Q + 600 := by omega
  have q4 : 40000000000 ≤ Q + 600 := by omega
  have q400 : 400 ≤ Q + 600 := by omega
  have qB : QBp (Q + 600) := ⟨Nat.le_trans hQ.1 (Nat.le_add_right _ _), q6⟩
  have hS := HSIM_ok (Q := Q + 600) hPT hB hG q4
  have k5 : (0 : Int) ≤ (k : Int) ∧ (k : Int) ≤ 511 := by omega
  obtain ⟨S2, e, c1, hF⟩ := op_1 (L := L) (Q := Q + 600) (xs := xs) hDR
  refine ⟨S2, st_0 h0 c1 hF, fun K => ?_⟩
  rw [← la_chain_k 1 (by decide)]
  unfold la_chain
  rw [if_neg (by decide), if_pos (by decide)]
  exact e K
theorem step_2 (pSG : HSGp) (p3 : H3p) (p4 : H4p) (p12 : H12p) (hQ : QBp Q) (hQ2 : 40000000000 ≤ Q) (hL : L ≤ 3072) (hj : j + 6 ≤ L) (hk : k ≤ 511) (h : INV k S) : ∃ S2, INV (k + 1) S2 ∧ ∀ K : ev_St → Option (Int × ev_St), la_arm 2 (Q + 600) L xs (j : Int) K S = K S2 := by
  have h0 := h
  obtain ⟨D, ⟨hDR, hPA, hPT, hTR⟩, ⟨hLG, hB8, hRR, hRM⟩, ⟨hT1, hT2⟩, ⟨hST, hZR⟩, _, _⟩ := h
  have hG : SG S := pSG _ _ _ hLG
  have hB : sp_BR S := hLG.2.1.2.2.2.1
  have hM : sp_MR S := hLG.2.1.2.2.2.2.1
  have q6 : 1000000 ≤ Q + 600 := by omega
  have q4 : 40000000000 ≤ Q + 600 := by omega
  have q400 : 400 ≤ Q + 600 := by omega
  have qB : QBp (Q + 600) := ⟨Nat.le_trans hQ.1 (Nat.le_add_right _ _), q6⟩
  have hS := HSIM_ok (Q := Q + 600) hPT hB hG q4
  have k5 : (0 : Int) ≤ (k : Int) ∧ (k : Int) ≤ 511 := by omega
  obtain ⟨S2, e, c1, c2, hF⟩ := op_2 (Q := Q + 600) (xs := xs) q6 hDR hPA hL hj
  refine ⟨S2, st_2 h0 c1 c2 hF, fun K => ?_⟩
  rw [← la_chain_k 2 (by decide)]
  unfold la_chain
  rw [if_neg (by decide), if_neg (by decide), if_pos (by decide)]
  exact e K
theorem step_3 (pSG : HSGp) (p3 : H3p) (p4 : H4p) (p12 : H12p) (hQ : QBp Q) (hQ2 : 40000000000 ≤ Q) (hL : L ≤ 3072) (hj : j + 6 ≤ L) (hk : k ≤ 511) (h : INV k S) : ∃ S2, INV (k + 1) S2 ∧ ∀ K : ev_St → Option (Int × ev_St), la_arm 3 (Q + 600) L xs (j : Int) K S = K S2 := by
  have h0 := h
  obtain ⟨D, ⟨hDR, hPA, hPT, hTR⟩, ⟨hLG, hB8, hRR, hRM⟩, ⟨hT1, hT2⟩, ⟨hST, hZR⟩, _, _⟩ := h
  have hG : SG S := pSG _ _ _ hLG
  have hB : sp_BR S := hLG.2.1.2.2.2.1
  have hM : sp_MR S := hLG.2.1.2.2.2.2.1
  have q6 : 1000000 ≤ Q + 600 := by omega
  have q4 : 40000000000 ≤ Q + 600 := by omega
  have q400 : 400 ≤ Q + 600 := by omega
  have qB : QBp (Q + 600) := ⟨Nat.le_trans hQ.1 (Nat.le_add_right _ _), q6⟩
  have hS := HSIM_ok (Q := Q + 600) hPT hB hG q4
  have k5 : (0 : Int) ≤ (k : Int) ∧ (k : Int) ≤ 511 := by omega
  obtain ⟨S2, e, c1, c2, c3, hF, c12, h5, hp⟩ := p3 (Q + 600) L j xs S qB hDR hPA hPT hL hj
  refine ⟨S2, st_3 h0 c1 c2 c3 c12 h5 hp hF, fun K => ?_⟩
  rw [← la_chain_k 3 (by decide)]
  unfold la_chain
  rw [if_neg (by decide), if_neg (by decide), if_neg (by decide), if_pos (by decide)]
  exact e K
theorem step_4 (pSG : HSGp) (p3 : H3p) (p4 : H4p) (p12 : H12p) (hQ : QBp Q) (hQ2 : 40000000000 ≤ Q) (hL : L ≤ 3072) (hj : j + 6 ≤ L) (hk : k ≤ 511) (h : INV k S) : ∃ S2, INV (k + 1) S2 ∧ ∀ K : ev_St → Option (Int × ev_St), la_arm 4 (Q + 600) L xs (j : Int) K S = K S2 := by
  have h0 := h
  obtain ⟨D, ⟨hDR, hPA, hPT, hTR⟩, ⟨hLG, hB8, hRR, hRM⟩, ⟨hT1, hT2⟩, ⟨hST, hZR⟩, _, _⟩ := h
  have hG : SG S := pSG _ _ _ hLG
  have hB : sp_BR S := hLG.2.1.2.2.2.1
  have hM : sp_MR S := hLG.2.1.2.2.2.2.1
  have q6 : 1000000 ≤ Q + 600 := by omega
  have q4 : 40000000000 ≤ Q + 600 := by omega
  have q400 : 400 ≤ Q + 600 := by omega
  have qB : QBp (Q + 600) := ⟨Nat.le_trans hQ.1 (Nat.le_add_right _ _), q6⟩
  have hS := HSIM_ok (Q := Q + 600) hPT hB hG q4
  have k5 : (0 : Int) ≤ (k : Int) ∧ (k : Int) ≤ 511 := by omega
  obtain ⟨S2, e, c1, c4, hF, h7⟩ := p4 (Q + 600) L j xs S q6 hDR hTR hL hj
  refine ⟨S2, st_t h0 c1 c4 h7 hF, fun K => ?_⟩
  rw [← la_chain_k 4 (by decide)]
  unfold la_chain
  rw [if_neg (by decide), if_neg (by decide), if_neg (by decide), if_neg (by decide), if_pos (by decide)]
  exact e K
theorem step_5 (pSG : HSGp) (p3 : H3p) (p4 : H4p) (p12 : H12p) (hQ : QBp Q) (hQ2 : 40000000000 ≤ Q) (hL : L ≤ 3072) (hj : j + 6 ≤ L) (hk : k ≤ 511) (h : INV k S) : ∃ S2, INV (k + 1) S2 ∧ ∀ K : ev_St → Option (Int × ev_St), la_arm 5 (Q + 600) L xs (j : Int) K S = K S2 := by
  have h0 := h
  obtain ⟨D, ⟨hDR, hPA, hPT, hTR⟩, ⟨hLG, hB8, hRR, hRM⟩, ⟨hT1, hT2⟩, ⟨hST, hZR⟩, _, _⟩ := h
  have hG : SG S := pSG _ _ _ hLG
  have hB : sp_BR S := hLG.2.1.2.2.2.1
  have hM : sp_MR S := hLG.2.1.2.2.2.2.1
  have q6 : 1000000 ≤ Q + 600 := by omega
  have q4 : 40000000000 ≤ Q + 600 := by omega
  have q400 : 400 ≤ Q + 600 := by omega
  have qB : QBp (Q + 600) := ⟨Nat.le_trans hQ.1 (Nat.le_add_right _ _), q6⟩
  have hS := HSIM_ok (Q := Q + 600) hPT hB hG q4
  have k5 : (0 : Int) ≤ (k : Int) ∧ (k : Int) ≤ 511 := by omega
  obtain ⟨S2, e, hF⟩ := op_5 (Q := Q + 600) (xs := xs) hPT hL hj
  refine ⟨S2, st_c h0 hF, fun K => ?_⟩
  rw [← la_chain_k 5 (by decide)]
  unfold la_chain
  rw [if_neg (by decide), if_neg (by decide), if_neg (by decide), if_neg (by decide), if_neg (by decide), if_pos (by decide)]
  exact e K
theorem step_6 (pSG : HSGp) (p3 : H3p) (p4 : H4p) (p12 : H12p) (hQ : QBp Q) (hQ2 : 40000000000 ≤ Q) (hL : L ≤ 3072) (hj : j + 6 ≤ L) (hk : k ≤ 511) (h : INV k S) : ∃ S2, INV (k + 1) S2 ∧ ∀ K : ev_St → Option (Int × ev_St), la_arm 6 (Q + 600) L xs (j : Int) K S = K S2 := by
  have h0 := h
  obtain ⟨D, ⟨hDR, hPA, hPT, hTR⟩, ⟨hLG, hB8, hRR, hRM⟩, ⟨hT1, hT2⟩, ⟨hST, hZR⟩, _, _⟩ := h
  have hG : SG S := pSG _ _ _ hLG
  have hB : sp_BR S := hLG.2.1.2.2.2.1
  have hM : sp_MR S := hLG.2.1.2.2.2.2.1
  have q6 : 1000000 ≤ Q + 600 := by omega
  have q4 : 40000000000 ≤ Q + 600 := by omega
  have q400 : 400 ≤ Q + 600 := by omega
  have qB : QBp (Q + 600) := ⟨Nat.le_trans hQ.1 (Nat.le_add_right _ _), q6⟩
  have hS := HSIM_ok (Q := Q + 600) hPT hB hG q4
  have k5 : (0 : Int) ≤ (k : Int) ∧ (k : Int) ≤ 511 := by omega
  obtain ⟨S2, e, hF⟩ := op_6 (Q := Q + 600) (xs := xs) hPT hL hj
  refine ⟨S2, st_c h0 hF, fun K => ?_⟩
  rw [← la_chain_k 6 (by decide)]
  unfold la_chain
  rw [if_neg (by decide), if_neg (by decide), if_neg (by decide), if_neg (by decide), if_neg (by decide), if_neg (by decide), if_pos (by decide)]
  exact e K
theorem step_7 (pSG : HSGp) (p3 : H3p) (p4 : H4p) (p12 : H12p) (hQ : QBp Q) (hQ2 : 40000000000 ≤ Q) (hL : L ≤ 3072) (hj : j + 6 ≤ L) (hk : k ≤ 511) (h : INV k S) : ∃ S2, INV (k + 1) S2 ∧ ∀ K : ev_St → Option (Int × ev_St), la_arm 7 (Q + 600) L xs (j : Int) K S = K S2 := by
  have h0 := h
  obtain ⟨D, ⟨hDR, hPA, hPT, hTR⟩, ⟨hLG, hB8, hRR, hRM⟩, ⟨hT1, hT2⟩, ⟨hST, hZR⟩, _, _⟩ := h
  have hG : SG S := pSG _ _ _ hLG
  have hB : sp_BR S := hLG.2.1.2.2.2.1
  have hM : sp_MR S := hLG.2.1.2.2.2.2.1
  have q6 : 1000000 ≤ Q + 600 := by omega
  have q4 : 40000000000 ≤ Q + 600 := by omega
  have q400 : 400 ≤ Q + 600 := by omega
  have qB : QBp (Q + 600) := ⟨Nat.le_trans hQ.1 (Nat.le_add_right _ _), q6⟩
  have hS := HSIM_ok (Q := Q + 600) hPT hB hG q4
  have k5 : (0 : Int) ≤ (k : Int) ∧ (k : Int) ≤ 511 := by omega
  obtain ⟨S2, e, hF⟩ := op_7 (Q := Q + 600) (xs := xs) q6 hPT hL hj
  refine ⟨S2, st_7 h0 hF, fun K => ?_⟩
  rw [← la_chain_k 7 (by decide)]
  unfold la_chain
  rw [if_neg (by decide), if_neg (by decide), if_neg (by decide), if_neg (by decide), if_neg (by decide), if_neg (by decide), if_neg (by decide), if_pos (by decide)]
  exact e K
theorem step_8 (pSG : HSGp) (p3 : H3p) (p4 : H4p) (p12 : H12p) (hQ : QBp Q) (hQ2 : 40000000000 ≤ Q) (hL : L ≤ 3072) (hj : j + 6 ≤ L) (hk : k ≤ 511) (h : INV k S) : ∃ S2, INV (k + 1) S2 ∧ ∀ K : ev_St → Option (Int × ev_St), la_arm 8 (Q + 600) L xs (j : Int) K S = K S2 := by
  have h0 := h
  obtain ⟨D, ⟨hDR, hPA, hPT, hTR⟩, ⟨hLG, hB8, hRR, hRM⟩, ⟨hT1, hT2⟩, ⟨hST, hZR⟩, _, _⟩ := h
  have hG : SG S := pSG _ _ _ hLG
  have hB : sp_BR S := hLG.2.1.2.2.2.1
  have hM : sp_MR S := hLG.2.1.2.2.2.2.1
  have q6 : 1000000 ≤ Q + 600 := by omega
  have q4 : 40000000000 ≤ Q + 600 := by omega
  have q400 : 400 ≤ Q + 600 := by omega
  have qB : QBp (Q + 600) := ⟨Nat.le_trans hQ.1 (Nat.le_add_right _ _), q6⟩
  have hS := HSIM_ok (Q := Q + 600) hPT hB hG q4
  have k5 : (0 : Int) ≤ (k : Int) ∧ (k : Int) ≤ 511 := by omega
  obtain ⟨S2, e, hF⟩ := op_8 (Q := Q + 600) (xs := xs) q6 hPT hL hj
  refine ⟨S2, st_7 h0 hF, fun K => ?_⟩
  rw [← la_chain_k 8 (by decide)]
  unfold la_chain
  rw [if_neg (by decide), if_neg (by decide), if_neg (by decide), if_neg (by decide), if_neg (by decide), if_neg (by decide), if_neg (by decide), if_neg (by decide), if_pos (by decide)]
  exact e K
theorem step_9 (pSG : HSGp) (p3 : H3p) (p4 : H4p) (p12 : H12p) (hQ : QBp Q) (hQ2 : 40000000000 ≤ Q) (hL : L ≤ 3072) (hj : j + 6 ≤ L) (hk : k ≤ 511) (h : INV k S) : ∃ S2, INV (k + 1) S2 ∧ ∀ K : ev_St → Option (Int × ev_St), la_arm 9 (Q + 600) L xs (j : Int) K S = K S2 := by
  have h0 := h
  obtain ⟨D, ⟨hDR, hPA, hPT, hTR⟩, ⟨hLG, hB8, hRR, hRM⟩, ⟨hT1, hT2⟩, ⟨hST, hZR⟩, _, _⟩ := h
  have hG : SG S := pSG _ _ _ hLG
  have hB : sp_BR S := hLG.2.1.2.2.2.1
  have hM : sp_MR S := hLG.2.1.2.2.2.2.1
  have q6 : 1000000 ≤ Q + 600 := by omega
  have q4 : 40000000000 ≤ Q + 600 := by omega
  have q400 : 400 ≤ Q + 600 := by omega
  have qB : QBp (Q + 600) := ⟨Nat.le_trans hQ.1 (Nat.le_add_right _ _), q6⟩
  have hS := HSIM_ok (Q := Q + 600) hPT hB hG q4
  have k5 : (0 : Int) ≤ (k : Int) ∧ (k : Int) ≤ 511 := by omega
  obtain ⟨S2, e, hF⟩ := op_9 (Q := Q + 600) (xs := xs) q6 hPT hL hj
  refine ⟨S2, st_7 h0 hF, fun K => ?_⟩
  rw [← la_chain_k 9 (by decide)]
  unfold la_chain
  rw [if_neg (by decide), if_neg (by decide), if_neg (by decide), if_neg (by decide), if_neg (by decide), if_neg (by decide), if_neg (by decide), if_neg (by decide), if_neg (by decide), if_pos (by decide)]
  exact e K
theorem step_10 (pSG : HSGp) (p3 : H3p) (p4 : H4p) (p12 : H12p) (hQ : QBp Q) (hQ2 : 40000000000 ≤ Q) (hL : L ≤ 3072) (hj : j + 6 ≤ L) (hk : k ≤ 511) (h : INV k S) : ∃ S2, INV (k + 1) S2 ∧ ∀ K : ev_St → Option (Int × ev_St), la_arm 10 (Q + 600) L xs (j : Int) K S = K S2 := by
  have h0 := h
  obtain ⟨D, ⟨hDR, hPA, hPT, hTR⟩, ⟨hLG, hB8, hRR, hRM⟩, ⟨hT1, hT2⟩, ⟨hST, hZR⟩, _, _⟩ := h
  have hG : SG S := pSG _ _ _ hLG
  have hB : sp_BR S := hLG.2.1.2.2.2.1
  have hM : sp_MR S := hLG.2.1.2.2.2.2.1
  have q6 : 1000000 ≤ Q + 600 := by omega
  have q4 : 40000000000 ≤ Q + 600 := by omega
  have q400 : 400 ≤ Q + 600 := by omega
  have qB : QBp (Q + 600) := ⟨Nat.le_trans hQ.1 (Nat.le_add_right _ _), q6⟩
  have hS := HSIM_ok (Q := Q + 600) hPT hB hG q4
  have k5 : (0 : Int) ≤ (k : Int) ∧ (k : Int) ≤ 511 := by omega
  obtain ⟨S2, e, hF⟩ := op_10 (Q := Q + 600) (xs := xs) hS q400 hPT hB hL hj
  refine ⟨S2, st_s h0 hF, fun K => ?_⟩
  rw [← la_chain_k 10 (by decide)]
  unfold la_chain
  rw [if_neg (by decide), if_neg (by decide), if_neg (by decide), if_neg (by decide), if_neg (by decide), if_neg (by decide), if_neg (by decide), if_neg (by decide), if_neg (by decide), if_neg (by decide), if_pos (by decide)]
  exact e K
theorem step_11 (pSG : HSGp) (p3 : H3p) (p4 : H4p) (p12 : H12p) (hQ : QBp Q) (hQ2 : 40000000000 ≤ Q) (hL : L ≤ 3072) (hj : j + 6 ≤ L) (hk : k ≤ 511) (h : INV k S) : ∃ S2, INV (k + 1) S2 ∧ ∀ K : ev_St → Option (Int × ev_St), la_arm 11 (Q + 600) L xs (j : Int) K S = K S2 := by
  have h0 := h
  obtain ⟨D, ⟨hDR, hPA, hPT, hTR⟩, ⟨hLG, hB8, hRR, hRM⟩, ⟨hT1, hT2⟩, ⟨hST, hZR⟩, _, _⟩ := h
  have hG : SG S := pSG _ _ _ hLG
  have hB : sp_BR S := hLG.2.1.2.2.2.1
  have hM : sp_MR S := hLG.2.1.2.2.2.2.1
  have q6 : 1000000 ≤ Q + 600 := by omega
  have q4 : 40000000000 ≤ Q + 600 := by omega
  have q400 : 400 ≤ Q + 600 := by omega
  have qB : QBp (Q + 600) := ⟨Nat.le_trans hQ.1 (Nat.le_add_right _ _), q6⟩
  have hS := HSIM_ok (Q := Q + 600) hPT hB hG q4
  have k5 : (0 : Int) ≤ (k : Int) ∧ (k : Int) ≤ 511 := by omega
  obtain ⟨S2, e, hF⟩ := op_11 (Q := Q + 600) (xs := xs) hS q400 hPT hB hL hj
  refine ⟨S2, st_s h0 hF, fun K => ?_⟩
  rw [← la_chain_k 11 (by decide)]
  unfold la_chain
  rw [if_neg (by decide), if_neg (by decide), if_neg (by decide), if_neg (by decide), if_neg (by decide), if_neg (by decide), if_neg (by decide), if_neg (by decide), if_neg (by decide), if_neg (by decide), if_neg (by decide), if_pos (by decide)]
  exact e K
theorem step_12 (pSG : HSGp) (p3 : H3p) (p4 : H4p) (p12 : H12p) (hQ : QBp Q) (hQ2 : 40000000000 ≤ Q) (hL : L ≤ 3072) (hj : j + 6 ≤ L) (hk : k ≤ 511) (h : INV k S) : ∃ S2, INV (k + 1) S2 ∧ ∀ K : ev_St → Option (Int × ev_St), la_arm 12 (Q + 600) L xs (j : Int) K S = K S2 := by
  have h0 := h
  obtain ⟨D, ⟨hDR, hPA, hPT, hTR⟩, ⟨hLG, hB8, hRR, hRM⟩, ⟨hT1, hT2⟩, ⟨hST, hZR⟩, _, _⟩ := h
  have hG : SG S := pSG _ _ _ hLG
  have hB : sp_BR S := hLG.2.1.2.2.2.1
  have hM : sp_MR S := hLG.2.1.2.2.2.2.1
  have q6 : 1000000 ≤ Q + 600 := by omega
  have q4 : 40000000000 ≤ Q + 600 := by omega
  have q400 : 400 ≤ Q + 600 := by omega
  have qB : QBp (Q + 600) := ⟨Nat.le_trans hQ.1 (Nat.le_add_right _ _), q6⟩
  have hS := HSIM_ok (Q := Q + 600) hPT hB hG q4
  have k5 : (0 : Int) ≤ (k : Int) ∧ (k : Int) ≤ 511 := by omega
  obtain ⟨S2, e, hF, c9, c10⟩ := p12 (Q + 600) L j (90 * k) xs S hS q6 hPT hB hG hB8.1 hT1 hT2 (by omega) hL hj
  refine ⟨S2, st_e h0 c9 c10 hF, fun K => ?_⟩
  rw [← la_chain_k 12 (by decide)]
  unfold la_chain
  rw [if_neg (by decide), if_neg (by decide), if_neg (by decide), if_neg (by decide), if_neg (by decide), if_neg (by decide), if_neg (by decide), if_neg (by decide), if_neg (by decide), if_neg (by decide), if_neg (by decide), if_neg (by decide), if_pos (by decide)]
  exact e K
theorem step_13 (pSG : HSGp) (p3 : H3p) (p4 : H4p) (p12 : H12p) (hQ : QBp Q) (hQ2 : 40000000000 ≤ Q) (hL : L ≤ 3072) (hj : j + 6 ≤ L) (hk : k ≤ 511) (h : INV k S) : ∃ S2, INV (k + 1) S2 ∧ ∀ K : ev_St → Option (Int × ev_St), la_arm 13 (Q + 600) L xs (j : Int) K S = K S2 := by
  have h0 := h
  obtain ⟨D, ⟨hDR, hPA, hPT, hTR⟩, ⟨hLG, hB8, hRR, hRM⟩, ⟨hT1, hT2⟩, ⟨hST, hZR⟩, _, _⟩ := h
  have hG : SG S := pSG _ _ _ hLG
  have hB : sp_BR S := hLG.2.1.2.2.2.1
  have hM : sp_MR S := hLG.2.1.2.2.2.2.1
  have q6 : 1000000 ≤ Q + 600 := by omega
  have q4 : 40000000000 ≤ Q + 600 := by omega
  have q400 : 400 ≤ Q + 600 := by omega
  have qB : QBp (Q + 600) := ⟨Nat.le_trans hQ.1 (Nat.le_add_right _ _), q6⟩
  have hS := HSIM_ok (Q := Q + 600) hPT hB hG q4
  have k5 : (0 : Int) ≤ (k : Int) ∧ (k : Int) ≤ 511 := by omega
  obtain ⟨S2, e, hF⟩ := op_13 (Q := Q + 600) (xs := xs) hS q400 hPT hB hL hj
  refine ⟨S2, st_s h0 hF, fun K => ?_⟩
  rw [← la_chain_k 13 (by decide)]
  unfold la_chain
  rw [if_neg (by decide), if_neg (by decide), if_neg (by decide), if_neg (by decide), if_neg (by decide), if_neg (by decide), if_neg (by decide), if_neg (by decide), if_neg (by decide), if_neg (by decide), if_neg (by decide), if_neg (by decide), if_neg (by decide), if_pos (by decide)]
  exact e K
theorem step_14 (pSG : HSGp) (p3 : H3p) (p4 : H4p) (p12 : H12p) (hQ : QBp Q) (hQ2 : 40000000000 ≤ Q) (hL : L ≤ 3072) (hj : j + 6 ≤ L) (hk : k ≤ 511) (h : INV k S) : ∃ S2, INV (k + 1) S2 ∧ ∀ K : ev_St → Option (Int × ev_St), la_arm 14 (Q + 600) L xs (j : Int) K S = K S2 := by
  have h0 := h
  obtain ⟨D, ⟨hDR, hPA, hPT, hTR⟩, ⟨hLG, hB8, hRR, hRM⟩, ⟨hT1, hT2⟩, ⟨hST, hZR⟩, _, _⟩ := h
  have hG : SG S := pSG _ _ _ hLG
  have hB : sp_BR S := hLG.2.1.2.2.2.1
  have hM : sp_MR S := hLG.2.1.2.2.2.2.1
  have q6 : 1000000 ≤ Q + 600 := by omega
  have q4 : 40000000000 ≤ Q + 600 := by omega
  have q400 : 400 ≤ Q + 600 := by omega
  have qB : QBp (Q + 600) := ⟨Nat.le_trans hQ.1 (Nat.le_add_right _ _), q6⟩
  have hS := HSIM_ok (Q := Q + 600) hPT hB hG q4
  have k5 : (0 : Int) ≤ (k : Int) ∧ (k : Int) ≤ 511 := by omega
  obtain ⟨S2, e, hF⟩ := op_14 (Q := Q + 600) (xs := xs) hS q400 hPT hB hL hj
  refine ⟨S2, st_s h0 hF, fun K => ?_⟩
  rw [← la_chain_k 14 (by decide)]
  unfold la_chain
  rw [if_neg (by decide), if_neg (by decide), if_neg (by decide), if_neg (by decide), if_neg (by decide), if_neg (by decide), if_neg (by decide), if_neg (by decide), if_neg (by decide), if_neg (by decide), if_neg (by decide), if_neg (by decide), if_neg (by decide), if_neg (by decide), if_pos (by decide)]
  exact e K
theorem step_15 (pSG : HSGp) (p3 : H3p) (p4 : H4p) (p12 : H12p) (hQ : QBp Q) (hQ2 : 40000000000 ≤ Q) (hL : L ≤ 3072) (hj : j + 6 ≤ L) (hk : k ≤ 511) (h : INV k S) : ∃ S2, INV (k + 1) S2 ∧ ∀ K : ev_St → Option (Int × ev_St), la_arm 15 (Q + 600) L xs (j : Int) K S = K S2 := by
  have h0 := h
  obtain ⟨D, ⟨hDR, hPA, hPT, hTR⟩, ⟨hLG, hB8, hRR, hRM⟩, ⟨hT1, hT2⟩, ⟨hST, hZR⟩, _, _⟩ := h
  have hG : SG S := pSG _ _ _ hLG
  have hB : sp_BR S := hLG.2.1.2.2.2.1
  have hM : sp_MR S := hLG.2.1.2.2.2.2.1
  have q6 : 1000000 ≤ Q + 600 := by omega
  have q4 : 40000000000 ≤ Q + 600 := by omega
  have q400 : 400 ≤ Q + 600 := by omega
  have qB : QBp (Q + 600) := ⟨Nat.le_trans hQ.1 (Nat.le_add_right _ _), q6⟩
  have hS := HSIM_ok (Q := Q + 600) hPT hB hG q4
  have k5 : (0 : Int) ≤ (k : Int) ∧ (k : Int) ≤ 511 := by omega
  obtain ⟨S2, e, hF⟩ := op_15 (Q := Q + 600) (xs := xs) hS q400 hPT hB hL hj
  refine ⟨S2, st_s h0 hF, fun K => ?_⟩
  rw [← la_chain_k 15 (by decide)]
  unfold la_chain
  rw [if_neg (by decide), if_neg (by decide), if_neg (by decide), if_neg (by decide), if_neg (by decide), if_neg (by decide), if_neg (by decide), if_neg (by decide), if_neg (by decide), if_neg (by decide), if_neg (by decide), if_neg (by decide), if_neg (by decide), if_neg (by decide), if_neg (by decide), if_pos (by decide)]
  exact e K
theorem step_16 (pSG : HSGp) (p3 : H3p) (p4 : H4p) (p12 : H12p) (hQ : QBp Q) (hQ2 : 40000000000 ≤ Q) (hL : L ≤ 3072) (hj : j + 6 ≤ L) (hk : k ≤ 511) (h : INV k S) : ∃ S2, INV (k + 1) S2 ∧ ∀ K : ev_St → Option (Int × ev_St), la_arm 16 (Q + 600) L xs (j : Int) K S = K S2 := by
  have h0 := h
  obtain ⟨D, ⟨hDR, hPA, hPT, hTR⟩, ⟨hLG, hB8, hRR, hRM⟩, ⟨hT1, hT2⟩, ⟨hST, hZR⟩, _, _⟩ := h
  have hG : SG S := pSG _ _ _ hLG
  have hB : sp_BR S := hLG.2.1.2.2.2.1
  have hM : sp_MR S := hLG.2.1.2.2.2.2.1
  have q6 : 1000000 ≤ Q + 600 := by omega
  have q4 : 40000000000 ≤ Q + 600 := by omega
  have q400 : 400 ≤ Q + 600 := by omega
  have qB : QBp (Q + 600) := ⟨Nat.le_trans hQ.1 (Nat.le_add_right _ _), q6⟩
  have hS := HSIM_ok (Q := Q + 600) hPT hB hG q4
  have k5 : (0 : Int) ≤ (k : Int) ∧ (k : Int) ≤ 511 := by omega
  obtain ⟨S2, e, hF⟩ := op_16 (Q := Q + 600) (xs := xs) hS q400 hPT hB hL hj
  refine ⟨S2, st_s h0 hF, fun K => ?_⟩
  rw [← la_chain_k 16 (by decide)]
  unfold la_chain
  rw [if_neg (by decide), if_neg (by decide), if_neg (by decide), if_neg (by decide), if_neg (by decide), if_neg (by decide), if_neg (by decide), if_neg (by decide), if_neg (by decide), if_neg (by decide), if_neg (by decide), if_neg (by decide), if_neg (by decide), if_neg (by decide), if_neg (by decide), if_neg (by decide), if_pos (by decide)]
  exact e K
theorem step_17 (pSG : HSGp) (p3 : H3p) (p4 : H4p) (p12 : H12p) (hQ : QBp Q) (hQ2 : 40000000000 ≤ Q) (hL : L ≤ 3072) (hj : j + 6 ≤ L) (hk : k ≤ 511) (h : INV k S) : ∃ S2, INV (k + 1) S2 ∧ ∀ K : ev_St → Option (Int × ev_St), la_arm 17 (Q + 600) L xs (j : Int) K S = K S2 := by
  have h0 := h
  obtain ⟨D, ⟨hDR, hPA, hPT, hTR⟩, ⟨hLG, hB8, hRR, hRM⟩, ⟨hT1, hT2⟩, ⟨hST, hZR⟩, _, _⟩ := h
  have hG : SG S := pSG _ _ _ hLG
  have hB : sp_BR S := hLG.2.1.2.2.2.1
  have hM : sp_MR S := hLG.2.1.2.2.2.2.1
  have q6 : 1000000 ≤ Q + 600 := by omega
  have q4 : 40000000000 ≤ Q + 600 := by omega
  have q400 : 400 ≤ Q + 600 := by omega
  have qB : QBp (Q + 600) := ⟨Nat.le_trans hQ.1 (Nat.le_add_right _ _), q6⟩
  have hS := HSIM_ok (Q := Q + 600) hPT hB hG q4
  have k5 : (0 : Int) ≤ (k : Int) ∧ (k : Int) ≤ 511 := by omega
  obtain ⟨D', S2, e, c1, c5, c6, hF⟩ := op_17 (Q := Q + 600) (xs := xs) q6 k5 hDR hLG hB8 hL hj
  refine ⟨S2, st_g h0 c1 c5 c6 hF, fun K => ?_⟩
  rw [← la_chain_k 17 (by decide)]
  unfold la_chain
  rw [if_neg (by decide), if_neg (by decide), if_neg (by decide), if_neg (by decide), if_neg (by decide), if_neg (by decide), if_neg (by decide), if_neg (by decide), if_neg (by decide), if_neg (by decide), if_neg (by decide), if_neg (by decide), if_neg (by decide), if_neg (by decide), if_neg (by decide), if_neg (by decide), if_neg (by decide), if_pos (by decide)]
  exact e K
theorem step_18 (pSG : HSGp) (p3 : H3p) (p4 : H4p) (p12 : H12p) (hQ : QBp Q) (hQ2 : 40000000000 ≤ Q) (hL : L ≤ 3072) (hj : j + 6 ≤ L) (hk : k ≤ 511) (h : INV k S) : ∃ S2, INV (k + 1) S2 ∧ ∀ K : ev_St → Option (Int × ev_St), la_arm 18 (Q + 600) L xs (j : Int) K S = K S2 := by
  have h0 := h
  obtain ⟨D, ⟨hDR, hPA, hPT, hTR⟩, ⟨hLG, hB8, hRR, hRM⟩, ⟨hT1, hT2⟩, ⟨hST, hZR⟩, _, _⟩ := h
  have hG : SG S := pSG _ _ _ hLG
  have hB : sp_BR S := hLG.2.1.2.2.2.1
  have hM : sp_MR S := hLG.2.1.2.2.2.2.1
  have q6 : 1000000 ≤ Q + 600 := by omega
  have q4 : 40000000000 ≤ Q + 600 := by omega
  have q400 : 400 ≤ Q + 600 := by omega
  have qB : QBp (Q + 600) := ⟨Nat.le_trans hQ.1 (Nat.le_add_right _ _), q6⟩
  have hS := HSIM_ok (Q := Q + 600) hPT hB hG q4
  have k5 : (0 : Int) ≤ (k : Int) ∧ (k : Int) ≤ 511 := by omega
  obtain ⟨S2, e, hF⟩ := op_18 (Q := Q + 600) (xs := xs) hB hL hj
  refine ⟨S2, st_c h0 hF, fun K => ?_⟩
  rw [← la_chain_k 18 (by decide)]
  unfold la_chain
  rw [if_neg (by decide), if_neg (by decide), if_neg (by decide), if_neg (by decide), if_neg (by decide), if_neg (by decide), if_neg (by decide), if_neg (by decide), if_neg (by decide), if_neg (by decide), if_neg (by decide), if_neg (by decide), if_neg (by decide), if_neg (by decide), if_neg (by decide), if_neg (by decide), if_neg (by decide), if_neg (by decide), if_pos (by decide)]
  exact e K
theorem step_19 (pSG : HSGp) (p3 : H3p) (p4 : H4p) (p12 : H12p) (hQ : QBp Q) (hQ2 : 40000000000 ≤ Q) (hL : L ≤ 3072) (hj : j + 6 ≤ L) (hk : k ≤ 511) (h : INV k S) : ∃ S2, INV (k + 1) S2 ∧ ∀ K : ev_St → Option (Int × ev_St), la_arm 19 (Q + 600) L xs (j : Int) K S = K S2 := by
  have h0 := h
  obtain ⟨D, ⟨hDR, hPA, hPT, hTR⟩, ⟨hLG, hB8, hRR, hRM⟩, ⟨hT1, hT2⟩, ⟨hST, hZR⟩, _, _⟩ := h
  have hG : SG S := pSG _ _ _ hLG
  have hB : sp_BR S := hLG.2.1.2.2.2.1
  have hM : sp_MR S := hLG.2.1.2.2.2.2.1
  have q6 : 1000000 ≤ Q + 600 := by omega
  have q4 : 40000000000 ≤ Q + 600 := by omega
  have q400 : 400 ≤ Q + 600 := by omega
  have qB : QBp (Q + 600) := ⟨Nat.le_trans hQ.1 (Nat.le_add_right _ _), q6⟩
  have hS := HSIM_ok (Q := Q + 600) hPT hB hG q4
  have k5 : (0 : Int) ≤ (k : Int) ∧ (k : Int) ≤ 511 := by omega
  obtain ⟨S2, e, hF⟩ := op_19 (Q := Q + 600) (xs := xs) hB hL hj
  refine ⟨S2, st_c h0 hF, fun K => ?_⟩
  rw [← la_chain_k 19 (by decide)]
  unfold la_chain
  rw [if_neg (by decide), if_neg (by decide), if_neg (by decide), if_neg (by decide), if_neg (by decide), if_neg (by decide), if_neg (by decide), if_neg (by decide), if_neg (by decide), if_neg (by decide), if_neg (by decide), if_neg (by decide), if_neg (by decide), if_neg (by decide), if_neg (by decide), if_neg (by decide), if_neg (by decide), if_neg (by decide), if_neg (by decide), if_pos (by decide)]
  exact e K
theorem step_20 (pSG : HSGp) (p3 : H3p) (p4 : H4p) (p12 : H12p) (hQ : QBp Q) (hQ2 : 40000000000 ≤ Q) (hL : L ≤ 3072) (hj : j + 6 ≤ L) (hk : k ≤ 511) (h : INV k S) : ∃ S2, INV (k + 1) S2 ∧ ∀ K : ev_St → Option (Int × ev_St), la_arm 20 (Q + 600) L xs (j : Int) K S = K S2 := by
  have h0 := h
  obtain ⟨D, ⟨hDR, hPA, hPT, hTR⟩, ⟨hLG, hB8, hRR, hRM⟩, ⟨hT1, hT2⟩, ⟨hST, hZR⟩, _, _⟩ := h
  have hG : SG S := pSG _ _ _ hLG
  have hB : sp_BR S := hLG.2.1.2.2.2.1
  have hM : sp_MR S := hLG.2.1.2.2.2.2.1
  have q6 : 1000000 ≤ Q + 600 := by omega
  have q4 : 40000000000 ≤ Q + 600 := by omega
  have q400 : 400 ≤ Q + 600 := by omega
  have qB : QBp (Q + 600) := ⟨Nat.le_trans hQ.1 (Nat.le_add_right _ _), q6⟩
  have hS := HSIM_ok (Q := Q + 600) hPT hB hG q4
  have k5 : (0 : Int) ≤ (k : Int) ∧ (k : Int) ≤ 511 := by omega
  obtain ⟨D', S2, e, c5, c6, c7, c8, hF⟩ := op_20 (Q := Q + 600) (xs := xs) q4 k5 hPT hTR hG hLG hB8 hRR hRM hL hj
  refine ⟨S2, st_r h0 c5 c6 c7 c8 hF, fun K => ?_⟩
  rw [← la_chain_k 20 (by decide)]
  unfold la_chain
  rw [if_neg (by decide), if_neg (by decide), if_neg (by decide), if_neg (by decide), if_neg (by decide), if_neg (by decide), if_neg (by decide), if_neg (by decide), if_neg (by decide), if_neg (by decide), if_neg (by decide), if_neg (by decide), if_neg (by decide), if_neg (by decide), if_neg (by decide), if_neg (by decide), if_neg (by decide), if_neg (by decide), if_neg (by decide), if_neg (by decide), if_pos (by decide)]
  exact e K
theorem step_21 (pSG : HSGp) (p3 : H3p) (p4 : H4p) (p12 : H12p) (hQ : QBp Q) (hQ2 : 40000000000 ≤ Q) (hL : L ≤ 3072) (hj : j + 6 ≤ L) (hk : k ≤ 511) (h : INV k S) : ∃ S2, INV (k + 1) S2 ∧ ∀ K : ev_St → Option (Int × ev_St), la_arm 21 (Q + 600) L xs (j : Int) K S = K S2 := by
  have h0 := h
  obtain ⟨D, ⟨hDR, hPA, hPT, hTR⟩, ⟨hLG, hB8, hRR, hRM⟩, ⟨hT1, hT2⟩, ⟨hST, hZR⟩, _, _⟩ := h
  have hG : SG S := pSG _ _ _ hLG
  have hB : sp_BR S := hLG.2.1.2.2.2.1
  have hM : sp_MR S := hLG.2.1.2.2.2.2.1
  have q6 : 1000000 ≤ Q + 600 := by omega
  have q4 : 40000000000 ≤ Q + 600 := by omega
  have q400 : 400 ≤ Q + 600 := by omega
  have qB : QBp (Q + 600) := ⟨Nat.le_trans hQ.1 (Nat.le_add_right _ _), q6⟩
  have hS := HSIM_ok (Q := Q + 600) hPT hB hG q4
  have k5 : (0 : Int) ≤ (k : Int) ∧ (k : Int) ≤ 511 := by omega
  obtain ⟨S2, e, c5, hF⟩ := op_21 (Q := Q + 600) (xs := xs) hB hM hL hj
  refine ⟨S2, st_m h0 c5 hF, fun K => ?_⟩
  rw [← la_chain_k 21 (by decide)]
  unfold la_chain
  rw [if_neg (by decide), if_neg (by decide), if_neg (by decide), if_neg (by decide), if_neg (by decide), if_neg (by decide), if_neg (by decide), if_neg (by decide), if_neg (by decide), if_neg (by decide), if_neg (by decide), if_neg (by decide), if_neg (by decide), if_neg (by decide), if_neg (by decide), if_neg (by decide), if_neg (by decide), if_neg (by decide), if_neg (by decide), if_neg (by decide), if_neg (by decide), if_pos (by decide)]
  exact e K
theorem step_22 (pSG : HSGp) (p3 : H3p) (p4 : H4p) (p12 : H12p) (hQ : QBp Q) (hQ2 : 40000000000 ≤ Q) (hL : L ≤ 3072) (hj : j + 6 ≤ L) (hk : k ≤ 511) (h : INV k S) : ∃ S2, INV (k + 1) S2 ∧ ∀ K : ev_St → Option (Int × ev_St), la_arm 22 (Q + 600) L xs (j : Int) K S = K S2 := by
  have h0 := h
  obtain ⟨D, ⟨hDR, hPA, hPT, hTR⟩, ⟨hLG, hB8, hRR, hRM⟩, ⟨hT1, hT2⟩, ⟨hST, hZR⟩, _, _⟩ := h
  have hG : SG S := pSG _ _ _ hLG
  have hB : sp_BR S := hLG.2.1.2.2.2.1
  have hM : sp_MR S := hLG.2.1.2.2.2.2.1
  have q6 : 1000000 ≤ Q + 600 := by omega
  have q4 : 40000000000 ≤ Q + 600 := by omega
  have q400 : 400 ≤ Q + 600 := by omega
  have qB : QBp (Q + 600) := ⟨Nat.le_trans hQ.1 (Nat.le_add_right _ _), q6⟩
  have hS := HSIM_ok (Q := Q + 600) hPT hB hG q4
  have k5 : (0 : Int) ≤ (k : Int) ∧ (k : Int) ≤ 511 := by omega
  obtain ⟨S2, e, hF⟩ := op_22 (Q := Q + 600) (xs := xs) hM hL hj
  refine ⟨S2, st_c h0 hF, fun K => ?_⟩
  rw [← la_chain_k 22 (by decide)]
  unfold la_chain
  rw [if_neg (by decide), if_neg (by decide), if_neg (by decide), if_neg (by decide), if_neg (by decide), if_neg (by decide), if_neg (by decide), if_neg (by decide), if_neg (by decide), if_neg (by decide), if_neg (by decide), if_neg (by decide), if_neg (by decide), if_neg (by decide), if_neg (by decide), if_neg (by decide), if_neg (by decide), if_neg (by decide), if_neg (by decide), if_neg (by decide), if_neg (by decide), if_neg (by decide), if_pos (by decide)]
  exact e K
theorem step_23 (pSG : HSGp) (p3 : H3p) (p4 : H4p) (p12 : H12p) (hQ : QBp Q) (hQ2 : 40000000000 ≤ Q) (hL : L ≤ 3072) (hj : j + 6 ≤ L) (hk : k ≤ 511) (h : INV k S) : ∃ S2, INV (k + 1) S2 ∧ ∀ K : ev_St → Option (Int × ev_St), la_arm 23 (Q + 600) L xs (j : Int) K S = K S2 := by
  have h0 := h
  obtain ⟨D, ⟨hDR, hPA, hPT, hTR⟩, ⟨hLG, hB8, hRR, hRM⟩, ⟨hT1, hT2⟩, ⟨hST, hZR⟩, _, _⟩ := h
  have hG : SG S := pSG _ _ _ hLG
  have hB : sp_BR S := hLG.2.1.2.2.2.1
  have hM : sp_MR S := hLG.2.1.2.2.2.2.1
  have q6 : 1000000 ≤ Q + 600 := by omega
  have q4 : 40000000000 ≤ Q + 600 := by omega
  have q400 : 400 ≤ Q + 600 := by omega
  have qB : QBp (Q + 600) := ⟨Nat.le_trans hQ.1 (Nat.le_add_right _ _), q6⟩
  have hS := HSIM_ok (Q := Q + 600) hPT hB hG q4
  have k5 : (0 : Int) ≤ (k : Int) ∧ (k : Int) ≤ 511 := by omega
  obtain ⟨S2, e, c5, c6, hF⟩ := op_23L (Q := Q + 600) (xs := xs) hLG hB8 hL hj
  refine ⟨S2, st_l h0 c5 c6 hF, fun K => ?_⟩
  rw [← la_chain_k 23 (by decide)]
  unfold la_chain
  rw [if_neg (by decide), if_neg (by decide), if_neg (by decide), if_neg (by decide), if_neg (by decide), if_neg (by decide), if_neg (by decide), if_neg (by decide), if_neg (by decide), if_neg (by decide), if_neg (by decide), if_neg (by decide), if_neg (by decide), if_neg (by decide), if_neg (by decide), if_neg (by decide), if_neg (by decide), if_neg (by decide), if_neg (by decide), if_neg (by decide), if_neg (by decide), if_neg (by decide), if_neg (by decide), if_pos (by decide)]
  exact e K
theorem step_24 (pSG : HSGp) (p3 : H3p) (p4 : H4p) (p12 : H12p) (hQ : QBp Q) (hQ2 : 40000000000 ≤ Q) (hL : L ≤ 3072) (hj : j + 6 ≤ L) (hk : k ≤ 511) (h : INV k S) : ∃ S2, INV (k + 1) S2 ∧ ∀ K : ev_St → Option (Int × ev_St), la_arm 24 (Q + 600) L xs (j : Int) K S = K S2 := by
  have h0 := h
  obtain ⟨D, ⟨hDR, hPA, hPT, hTR⟩, ⟨hLG, hB8, hRR, hRM⟩, ⟨hT1, hT2⟩, ⟨hST, hZR⟩, _, _⟩ := h
  have hG : SG S := pSG _ _ _ hLG
  have hB : sp_BR S := hLG.2.1.2.2.2.1
  have hM : sp_MR S := hLG.2.1.2.2.2.2.1
  have q6 : 1000000 ≤ Q + 600 := by omega
  have q4 : 40000000000 ≤ Q + 600 := by omega
  have q400 : 400 ≤ Q + 600 := by omega
  have qB : QBp (Q + 600) := ⟨Nat.le_trans hQ.1 (Nat.le_add_right _ _), q6⟩
  have hS := HSIM_ok (Q := Q + 600) hPT hB hG q4
  have k5 : (0 : Int) ≤ (k : Int) ∧ (k : Int) ≤ 511 := by omega
  obtain ⟨S2, e, c5, c6, hF⟩ := op_24L (Q := Q + 600) (xs := xs) (by omega) hLG hB8 hL hj
  refine ⟨S2, st_l h0 c5 c6 hF, fun K => ?_⟩
  rw [← la_chain_k 24 (by decide)]
  unfold la_chain
  rw [if_neg (by decide), if_neg (by decide), if_neg (by decide), if_neg (by decide), if_neg (by decide), if_neg (by decide), if_neg (by decide), if_neg (by decide), if_neg (by decide), if_neg (by decide), if_neg (by decide), if_neg (by decide), if_neg (by decide), if_neg (by decide), if_neg (by decide), if_neg (by decide), if_neg (by decide), if_neg (by decide), if_neg (by decide), if_neg (by decide), if_neg (by decide), if_neg (by decide), if_neg (by decide), if_neg (by decide), if_pos (by decide)]
  exact e K
theorem step_25 (pSG : HSGp) (p3 : H3p) (p4 : H4p) (p12 : H12p) (hQ : QBp Q) (hQ2 : 40000000000 ≤ Q) (hL : L ≤ 3072) (hj : j + 6 ≤ L) (hk : k ≤ 511) (h : INV k S) : ∃ S2, INV (k + 1) S2 ∧ ∀ K : ev_St → Option (Int × ev_St), la_arm 25 (Q + 600) L xs (j : Int) K S = K S2 := by
  have h0 := h
  obtain ⟨D, ⟨hDR, hPA, hPT, hTR⟩, ⟨hLG, hB8, hRR, hRM⟩, ⟨hT1, hT2⟩, ⟨hST, hZR⟩, _, _⟩ := h
  have hG : SG S := pSG _ _ _ hLG
  have hB : sp_BR S := hLG.2.1.2.2.2.1
  have hM : sp_MR S := hLG.2.1.2.2.2.2.1
  have q6 : 1000000 ≤ Q + 600 := by omega
  have q4 : 40000000000 ≤ Q + 600 := by omega
  have q400 : 400 ≤ Q + 600 := by omega
  have qB : QBp (Q + 600) := ⟨Nat.le_trans hQ.1 (Nat.le_add_right _ _), q6⟩
  have hS := HSIM_ok (Q := Q + 600) hPT hB hG q4
  have k5 : (0 : Int) ≤ (k : Int) ∧ (k : Int) ≤ 511 := by omega
  obtain ⟨S2, e, c5, hF⟩ := op_25 (Q := Q + 600) (xs := xs) q6 (by omega) hLG hL hj
  refine ⟨S2, st_u h0 c5 (B8_u hLG c5 hB8 hF) hF, fun K => ?_⟩
  rw [← la_chain_k 25 (by decide)]
  unfold la_chain
  rw [if_neg (by decide), if_neg (by decide), if_neg (by decide), if_neg (by decide), if_neg (by decide), if_neg (by decide), if_neg (by decide), if_neg (by decide), if_neg (by decide), if_neg (by decide), if_neg (by decide), if_neg (by decide), if_neg (by decide), if_neg (by decide), if_neg (by decide), if_neg (by decide), if_neg (by decide), if_neg (by decide), if_neg (by decide), if_neg (by decide), if_neg (by decide), if_neg (by decide), if_neg (by decide), if_neg (by decide), if_neg (by decide), if_pos (by decide)]
  exact e K
theorem step_26 (pSG : HSGp) (p3 : H3p) (p4 : H4p) (p12 : H12p) (hQ : QBp Q) (hQ2 : 40000000000 ≤ Q) (hL : L ≤ 3072) (hj : j + 6 ≤ L) (hk : k ≤ 511) (h : INV k S) : ∃ S2, INV (k + 1) S2 ∧ ∀ K : ev_St → Option (Int × ev_St), la_arm 26 (Q + 600) L xs (j : Int) K S = K S2 := by
  have h0 := h
  obtain ⟨D, ⟨hDR, hPA, hPT, hTR⟩, ⟨hLG, hB8, hRR, hRM⟩, ⟨hT1, hT2⟩, ⟨hST, hZR⟩, _, _⟩ := h
  have hG : SG S := pSG _ _ _ hLG
  have hB : sp_BR S := hLG.2.1.2.2.2.1
  have hM : sp_MR S := hLG.2.1.2.2.2.2.1
  have q6 : 1000000 ≤ Q + 600 := by omega
  have q4 : 40000000000 ≤ Q + 600 := by omega
  have q400 : 400 ≤ Q + 600 := by omega
  have qB : QBp (Q + 600) := ⟨Nat.le_trans hQ.1 (Nat.le_add_right _ _), q6⟩
  have hS := HSIM_ok (Q := Q + 600) hPT hB hG q4
  have k5 : (0 : Int) ≤ (k : Int) ∧ (k : Int) ≤ 511 := by omega
  obtain ⟨S2, e, c5, hF⟩ := op_26 (Q := Q + 600) (xs := xs) q6 (by omega) hLG hL hj
  refine ⟨S2, st_u h0 c5 (B8_u hLG c5 hB8 hF) hF, fun K => ?_⟩
  rw [← la_chain_k 26 (by decide)]
  unfold la_chain
  rw [if_neg (by decide), if_neg (by decide), if_neg (by decide), if_neg (by decide), if_neg (by decide), if_neg (by decide), if_neg (by decide), if_neg (by decide), if_neg (by decide), if_neg (by decide), if_neg (by decide), if_neg (by decide), if_neg (by decide), if_neg (by decide), if_neg (by decide), if_neg (by decide), if_neg (by decide), if_neg (by decide), if_neg (by decide), if_neg (by decide), if_neg (by decide), if_neg (by decide), if_neg (by decide), if_neg (by decide), if_neg (by decide), if_neg (by decide), if_pos (by decide)]
  exact e K
theorem step_27 (pSG : HSGp) (p3 : H3p) (p4 : H4p) (p12 : H12p) (hQ : QBp Q) (hQ2 : 40000000000 ≤ Q) (hL : L ≤ 3072) (hj : j + 6 ≤ L) (hk : k ≤ 511) (h : INV k S) : ∃ S2, INV (k + 1) S2 ∧ ∀ K : ev_St → Option (Int × ev_St), la_arm 27 (Q + 600) L xs (j : Int) K S = K S2 := by
  have h0 := h
  obtain ⟨D, ⟨hDR, hPA, hPT, hTR⟩, ⟨hLG, hB8, hRR, hRM⟩, ⟨hT1, hT2⟩, ⟨hST, hZR⟩, _, _⟩ := h
  have hG : SG S := pSG _ _ _ hLG
  have hB : sp_BR S := hLG.2.1.2.2.2.1
  have hM : sp_MR S := hLG.2.1.2.2.2.2.1
  have q6 : 1000000 ≤ Q + 600 := by omega
  have q4 : 40000000000 ≤ Q + 600 := by omega
  have q400 : 400 ≤ Q + 600 := by omega
  have qB : QBp (Q + 600) := ⟨Nat.le_trans hQ.1 (Nat.le_add_right _ _), q6⟩
  have hS := HSIM_ok (Q := Q + 600) hPT hB hG q4
  have k5 : (0 : Int) ≤ (k : Int) ∧ (k : Int) ≤ 511 := by omega
  obtain ⟨S2, e, c7, hF⟩ := op_27 (Q := Q + 600) (xs := xs) hRR hL hj
  refine ⟨S2, st_q h0 c7 hF, fun K => ?_⟩
  rw [← la_chain_k 27 (by decide)]
  unfold la_chain
  rw [if_neg (by decide), if_neg (by decide), if_neg (by decide), if_neg (by decide), if_neg (by decide), if_neg (by decide), if_neg (by decide), if_neg (by decide), if_neg (by decide), if_neg (by decide), if_neg (by decide), if_neg (by decide), if_neg (by decide), if_neg (by decide), if_neg (by decide), if_neg (by decide), if_neg (by decide), if_neg (by decide), if_neg (by decide), if_neg (by decide), if_neg (by decide), if_neg (by decide), if_neg (by decide), if_neg (by decide), if_neg (by decide), if_neg (by decide), if_neg (by decide), if_pos (by decide)]
  exact e K
theorem step_28 (pSG : HSGp) (p3 : H3p) (p4 : H4p) (p12 : H12p) (hQ : QBp Q) (hQ2 : 40000000000 ≤ Q) (hL : L ≤ 3072) (hj : j + 6 ≤ L) (hk : k ≤ 511) (h : INV k S) : ∃ S2, INV (k + 1) S2 ∧ ∀ K : ev_St → Option (Int × ev_St), la_arm 28 (Q + 600) L xs (j : Int) K S = K S2 := by
  have h0 := h
  obtain ⟨D, ⟨hDR, hPA, hPT, hTR⟩, ⟨hLG, hB8, hRR, hRM⟩, ⟨hT1, hT2⟩, ⟨hST, hZR⟩, _, _⟩ := h
  have hG : SG S := pSG _ _ _ hLG
  have hB : sp_BR S := hLG.2.1.2.2.2.1
  have hM : sp_MR S := hLG.2.1.2.2.2.2.1
  have q6 : 1000000 ≤ Q + 600 := by omega
  have q4 : 40000000000 ≤ Q + 600 := by omega
  have q400 : 400 ≤ Q + 600 := by omega
  have qB : QBp (Q + 600) := ⟨Nat.le_trans hQ.1 (Nat.le_add_right _ _), q6⟩
  have hS := HSIM_ok (Q := Q + 600) hPT hB hG q4
  have k5 : (0 : Int) ≤ (k : Int) ∧ (k : Int) ≤ 511 := by omega
  obtain ⟨D', S2, e, c5, c6, c7, c8, hF⟩ := op_28 (Q := Q + 600) (xs := xs) q4 k5 hPT hTR hG hLG hB8 hRR hRM hL hj
  refine ⟨S2, st_r h0 c5 c6 c7 c8 hF, fun K => ?_⟩
  rw [← la_chain_k 28 (by decide)]
  unfold la_chain
  rw [if_neg (by decide), if_neg (by decide), if_neg (by decide), if_neg (by decide), if_neg (by decide), if_neg (by decide), if_neg (by decide), if_neg (by decide), if_neg (by decide), if_neg (by decide), if_neg (by decide), if_neg (by decide), if_neg (by decide), if_neg (by decide), if_neg (by decide), if_neg (by decide), if_neg (by decide), if_neg (by decide), if_neg (by decide), if_neg (by decide), if_neg (by decide), if_neg (by decide), if_neg (by decide), if_neg (by decide), if_neg (by decide), if_neg (by decide), if_neg (by decide), if_neg (by decide), if_pos (by decide)]
  exact e K
theorem step_29 (pSG : HSGp) (p3 : H3p) (p4 : H4p) (p12 : H12p) (hQ : QBp Q) (hQ2 : 40000000000 ≤ Q) (hL : L ≤ 3072) (hj : j + 6 ≤ L) (hk : k ≤ 511) (h : INV k S) : ∃ S2, INV (k + 1) S2 ∧ ∀ K : ev_St → Option (Int × ev_St), la_arm 29 (Q + 600) L xs (j : Int) K S = K S2 := by
  have h0 := h
  obtain ⟨D, ⟨hDR, hPA, hPT, hTR⟩, ⟨hLG, hB8, hRR, hRM⟩, ⟨hT1, hT2⟩, ⟨hST, hZR⟩, _, _⟩ := h
  have hG : SG S := pSG _ _ _ hLG
  have hB : sp_BR S := hLG.2.1.2.2.2.1
  have hM : sp_MR S := hLG.2.1.2.2.2.2.1
  have q6 : 1000000 ≤ Q + 600 := by omega
  have q4 : 40000000000 ≤ Q + 600 := by omega
  have q400 : 400 ≤ Q + 600 := by omega
  have qB : QBp (Q + 600) := ⟨Nat.le_trans hQ.1 (Nat.le_add_right _ _), q6⟩
  have hS := HSIM_ok (Q := Q + 600) hPT hB hG q4
  have k5 : (0 : Int) ≤ (k : Int) ∧ (k : Int) ≤ 511 := by omega
  obtain ⟨S2, e, hF, c11, c1⟩ := op_29 (Q := Q + 600) (xs := xs) q6 hPT hST hDR hL hj
  refine ⟨S2, st_f h0 c1 c11 hF, fun K => ?_⟩
  rw [← la_chain_k 29 (by decide)]
  unfold la_chain
  rw [if_neg (by decide), if_neg (by decide), if_neg (by decide), if_neg (by decide), if_neg (by decide), if_neg (by decide), if_neg (by decide), if_neg (by decide), if_neg (by decide), if_neg (by decide), if_neg (by decide), if_neg (by decide), if_neg (by decide), if_neg (by decide), if_neg (by decide), if_neg (by decide), if_neg (by decide), if_neg (by decide), if_neg (by decide), if_neg (by decide), if_neg (by decide), if_neg (by decide), if_neg (by decide), if_neg (by decide), if_neg (by decide), if_neg (by decide), if_neg (by decide), if_neg (by decide), if_neg (by decide), if_pos (by decide)]
  exact e K
theorem step_30 (pSG : HSGp) (p3 : H3p) (p4 : H4p) (p12 : H12p) (hQ : QBp Q) (hQ2 : 40000000000 ≤ Q) (hL : L ≤ 3072) (hj : j + 6 ≤ L) (hk : k ≤ 511) (h : INV k S) : ∃ S2, INV (k + 1) S2 ∧ ∀ K : ev_St → Option (Int × ev_St), la_arm 30 (Q + 600) L xs (j : Int) K S = K S2 := by
  have h0 := h
  obtain ⟨D, ⟨hDR, hPA, hPT, hTR⟩, ⟨hLG, hB8, hRR, hRM⟩, ⟨hT1, hT2⟩, ⟨hST, hZR⟩, _, _⟩ := h
  have hG : SG S := pSG _ _ _ hLG
  have hB : sp_BR S := hLG.2.1.2.2.2.1
  have hM : sp_MR S := hLG.2.1.2.2.2.2.1
  have q6 : 1000000 ≤ Q + 600 := by omega
  have q4 : 40000000000 ≤ Q + 600 := by omega
  have q400 : 400 ≤ Q + 600 := by omega
  have qB : QBp (Q + 600) := ⟨Nat.le_trans hQ.1 (Nat.le_add_right _ _), q6⟩
  have hS := HSIM_ok (Q := Q + 600) hPT hB hG q4
  have k5 : (0 : Int) ≤ (k : Int) ∧ (k : Int) ≤ 511 := by omega
  obtain ⟨S2, e, hF, c11, c1⟩ := op_30 (Q := Q + 600) (xs := xs) q6 hPT hZR hST hDR (by omega) hL hj
  refine ⟨S2, st_f h0 c1 c11 hF, fun K => ?_⟩
  rw [← la_chain_k 30 (by decide)]
  unfold la_chain
  rw [if_neg (by decide), if_neg (by decide), if_neg (by decide), if_neg (by decide), if_neg (by decide), if_neg (by decide), if_neg (by decide), if_neg (by decide), if_neg (by decide), if_neg (by decide), if_neg (by decide), if_neg (by decide), if_neg (by decide), if_neg (by decide), if_neg (by decide), if_neg (by decide), if_neg (by decide), if_neg (by decide), if_neg (by decide), if_neg (by decide), if_neg (by decide), if_neg (by decide), if_neg (by decide), if_neg (by decide), if_neg (by decide), if_neg (by decide), if_neg (by decide), if_neg (by decide), if_neg (by decide), if_neg (by decide), if_pos (by decide)]
  exact e K
theorem step_31 (pSG : HSGp) (p3 : H3p) (p4 : H4p) (p12 : H12p) (hQ : QBp Q) (hQ2 : 40000000000 ≤ Q) (hL : L ≤ 3072) (hj : j + 6 ≤ L) (hk : k ≤ 511) (h : INV k S) : ∃ S2, INV (k + 1) S2 ∧ ∀ K : ev_St → Option (Int × ev_St), la_arm 31 (Q + 600) L xs (j : Int) K S = K S2 := by
  have h0 := h
  obtain ⟨D, ⟨hDR, hPA, hPT, hTR⟩, ⟨hLG, hB8, hRR, hRM⟩, ⟨hT1, hT2⟩, ⟨hST, hZR⟩, _, _⟩ := h
  have hG : SG S := pSG _ _ _ hLG
  have hB : sp_BR S := hLG.2.1.2.2.2.1
  have hM : sp_MR S := hLG.2.1.2.2.2.2.1
  have q6 : 1000000 ≤ Q + 600 := by omega
  have q4 : 40000000000 ≤ Q + 600 := by omega
  have q400 : 400 ≤ Q + 600 := by omega
  have qB : QBp (Q + 600) := ⟨Nat.le_trans hQ.1 (Nat.le_add_right _ _), q6⟩
  have hS := HSIM_ok (Q := Q + 600) hPT hB hG q4
  have k5 : (0 : Int) ≤ (k : Int) ∧ (k : Int) ≤ 511 := by omega
  obtain ⟨S2, e, hF, c11, c1⟩ := op_31 (Q := Q + 600) (xs := xs) q6 hPT hZR hST hDR hL hj
  refine ⟨S2, st_f h0 c1 c11 hF, fun K => ?_⟩
  rw [← la_chain_k 31 (by decide)]
  unfold la_chain
  rw [if_neg (by decide), if_neg (by decide), if_neg (by decide), if_neg (by decide), if_neg (by decide), if_neg (by decide), if_neg (by decide), if_neg (by decide), if_neg (by decide), if_neg (by decide), if_neg (by decide), if_neg (by decide), if_neg (by decide), if_neg (by decide), if_neg (by decide), if_neg (by decide), if_neg (by decide), if_neg (by decide), if_neg (by decide), if_neg (by decide), if_neg (by decide), if_neg (by decide), if_neg (by decide), if_neg (by decide), if_neg (by decide), if_neg (by decide), if_neg (by decide), if_neg (by decide), if_neg (by decide), if_neg (by decide), if_neg (by decide), if_pos (by decide)]
  exact e K
theorem step_32 (pSG : HSGp) (p3 : H3p) (p4 : H4p) (p12 : H12p) (hQ : QBp Q) (hQ2 : 40000000000 ≤ Q) (hL : L ≤ 3072) (hj : j + 6 ≤ L) (hk : k ≤ 511) (h : INV k S) : ∃ S2, INV (k + 1) S2 ∧ ∀ K : ev_St → Option (Int × ev_St), la_arm 32 (Q + 600) L xs (j : Int) K S = K S2 := by
  have h0 := h
  obtain ⟨D, ⟨hDR, hPA, hPT, hTR⟩, ⟨hLG, hB8, hRR, hRM⟩, ⟨hT1, hT2⟩, ⟨hST, hZR⟩, _, _⟩ := h
  have hG : SG S := pSG _ _ _ hLG
  have hB : sp_BR S := hLG.2.1.2.2.2.1
  have hM : sp_MR S := hLG.2.1.2.2.2.2.1
  have q6 : 1000000 ≤ Q + 600 := by omega
  have q4 : 40000000000 ≤ Q + 600 := by omega
  have q400 : 400 ≤ Q + 600 := by omega
  have qB : QBp (Q + 600) := ⟨Nat.le_trans hQ.1 (Nat.le_add_right _ _), q6⟩
  have hS := HSIM_ok (Q := Q + 600) hPT hB hG q4
  have k5 : (0 : Int) ≤ (k : Int) ∧ (k : Int) ≤ 511 := by omega
  obtain ⟨S2, e, hF, c11, c1⟩ := op_32 (Q := Q + 600) (xs := xs) q6 hPT hZR hST hDR hL hj
  refine ⟨S2, st_f h0 c1 c11 hF, fun K => ?_⟩
  rw [← la_chain_k 32 (by decide)]
  unfold la_chain
  rw [if_neg (by decide), if_neg (by decide), if_neg (by decide), if_neg (by decide), if_neg (by decide), if_neg (by decide), if_neg (by decide), if_neg (by decide), if_neg (by decide), if_neg (by decide), if_neg (by decide), if_neg (by decide), if_neg (by decide), if_neg (by decide), if_neg (by decide), if_neg (by decide), if_neg (by decide), if_neg (by decide), if_neg (by decide), if_neg (by decide), if_neg (by decide), if_neg (by decide), if_neg (by decide), if_neg (by decide), if_neg (by decide), if_neg (by decide), if_neg (by decide), if_neg (by decide), if_neg (by decide), if_neg (by decide), if_neg (by decide), if_neg (by decide), if_pos (by decide)]
  exact e K
theorem step_x {o : Nat} (h0 : INV k S) : ∃ S2, INV (k + 1) S2 ∧ ∀ K : ev_St → Option (Int × ev_St), la_arm (o + 33) Q L xs (j : Int) K S = K S2 := ⟨S, st_c h0 ⟨fun _ _ _ => rfl, fun _ _ _ => rfl, rfl, rfl, rfl, Nat.le_succ _, Nat.le_add_right _ _⟩, fun K => rfl⟩
theorem step (pSG : HSGp) (p3 : H3p) (p4 : H4p) (p12 : H12p) (hQ : QBp Q) (hQ2 : 40000000000 ≤ Q) (hL : L ≤ 3072) (hj : j + 6 ≤ L) (hk : k ≤ 511) (h : INV k S) : ∀ o : Nat, ∃ S2, INV (k + 1) S2 ∧ ∀ K : ev_St → Option (Int × ev_St), la_arm o (Q + 600) L xs (j : Int) K S = K S2
  | 0 => step_0 pSG p3 p4 p12 hQ hQ2 hL hj hk h
  | 1 => step_1 pSG p3 p4 p12 hQ hQ2 hL hj hk h
  | 2 => step_2 pSG p3 p4 p12 hQ hQ2 hL hj hk h
  | 3 => step_3 pSG p3 p4 p12 hQ hQ2 hL hj hk h
  | 4 => step_4 pSG p3 p4 p12 hQ hQ2 hL hj hk h
  | 5 => step_5 pSG p3 p4 p12 hQ hQ2 hL hj hk h
  | 6 => step_6 pSG p3 p4 p12 hQ hQ2 hL hj hk h
  | 7 => step_7 pSG p3 p4 p12 hQ hQ2 hL hj hk h
  | 8 => step_8 pSG p3 p4 p12 hQ hQ2 hL hj hk h
  | 9 => step_9 pSG p3 p4 p12 hQ hQ2 hL hj hk h
  | 10 => step_10 pSG p3 p4 p12 hQ hQ2 hL hj hk h
  | 11 => step_11 pSG p3 p4 p12 hQ hQ2 hL hj hk h
  | 12 => step_12 pSG p3 p4 p12 hQ hQ2 hL hj hk h
  | 13 => step_13 pSG p3 p4 p12 hQ hQ2 hL hj hk h
  | 14 => step_14 pSG p3 p4 p12 hQ hQ2 hL hj hk h
  | 15 => step_15 pSG p3 p4 p12 hQ hQ2 hL hj hk h
  | 16 => step_16 pSG p3 p4 p12 hQ hQ2 hL hj hk h
  | 17 => step_17 pSG p3 p4 p12 hQ hQ2 hL hj hk h
  | 18 => step_18 pSG p3 p4 p12 hQ hQ2 hL hj hk h
  | 19 => step_19 pSG p3 p4 p12 hQ hQ2 hL hj hk h
  | 20 => step_20 pSG p3 p4 p12 hQ hQ2 hL hj hk h
  | 21 => step_21 pSG p3 p4 p12 hQ hQ2 hL hj hk h
  | 22 => step_22 pSG p3 p4 p12 hQ hQ2 hL hj hk h
  | 23 => step_23 pSG p3 p4 p12 hQ hQ2 hL hj hk h
  | 24 => step_24 pSG p3 p4 p12 hQ hQ2 hL hj hk h
  | 25 => step_25 pSG p3 p4 p12 hQ hQ2 hL hj hk h
  | 26 => step_26 pSG p3 p4 p12 hQ hQ2 hL hj hk h
  | 27 => step_27 pSG p3 p4 p12 hQ hQ2 hL hj hk h
  | 28 => step_28 pSG p3 p4 p12 hQ hQ2 hL hj hk h
  | 29 => step_29 pSG p3 p4 p12 hQ hQ2 hL hj hk h
  | 30 => step_30 pSG p3 p4 p12 hQ hQ2 hL hj hk h
  | 31 => step_31 pSG p3 p4 p12 hQ hQ2 hL hj hk h
  | 32 => step_32 pSG p3 p4 p12 hQ hQ2 hL hj hk h
  | _ + 33 => step_x h
end OSV
