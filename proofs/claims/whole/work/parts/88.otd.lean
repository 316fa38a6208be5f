/-! ASSEMBLY: a call, whatever it is -/
section OSV
variable {Q L j k : Nat} {xs : Nat → Int32} {S : ev_St}

theorem step_0 (hQ : QBp Q) (hQ2 : 40000000000 ≤ Q) (hL : L ≤ 3072) (hj : j + 6 ≤ L) (hk : k ≤ 511) (h : INV k S) : ∃ S2, INV (k + 1) S2 ∧ ∀ K : ev_St → Option (Int × ev_St), la_arm 0 (Q + 600) L xs (j : Int) K S = K S2 := by
  have h0 := h
  obtain ⟨D, ⟨hDR, hPA, hPT, hTR⟩, ⟨hLG, hB8, hRR, hRM⟩, ⟨hT1, hT2⟩, ⟨hST, hZR⟩, _, _⟩ := h
  have hG : SG S := SG_of_g hLG
  have hB : sp_BR S := BR_of_g hLG
  have hM : sp_MR S := hLG.2.1.2.2.2.2.1
  have q6 : 1000000 ≤ Q + 600 := by omega
  have q4 : 40000000000 ≤ Q + 600 := by omega
  have q400 : 400 ≤ Q + 600 := by omega
  have qB : QBp (Q + 600) := ⟨Nat.le_trans hQ.1 (Nat.le_add_right _ _), q6⟩
  have hS := HSIM_ok (Q := Q + 600) hPT hB hG q4
  have k5 : (0 : Int) ≤ (k : Int) ∧ (k : Int) ≤ 511 := by omega
  obtain ⟨S2, e, c1, hF⟩ := op_0 (Q := Q) (xs := xs) hDR hL hj
  refine ⟨S2, st_0 h0 c1 hF, fun K => ?_⟩
  rw [← la_chain_k 0 (by decide)]
  unfold la_chain
  rw [if_pos (by decide)]
  exact e K
theorem step_1 (hQ : QBp Q) (hQ2 : 40000000000 ≤ Q) (hL : L ≤ 3072) (hj : j + 6 ≤ L) (hk : k ≤ 511) (h : INV k S) : ∃ S2, INV (k + 1) S2 ∧ ∀ K : ev_St → Option (Int × ev_St), la_arm 1 (Q + 600) L xs (j : Int) K S = K S2 := by
  have h0 := h
  obtain ⟨D, ⟨hDR, hPA, hPT, hTR⟩, ⟨hLG, hB8, hRR, hRM⟩, ⟨hT1, hT2⟩, ⟨hST, hZR⟩, _, _⟩ := h
  have hG : SG S := SG_of_g hLG
  have hB : sp_BR S := BR_of_g hLG
  have hM : sp_MR S := hLG.2.1.2.2.2.2.1
  have q6 : 1000000 ≤ Q + 600 := by omega
  have q4 : 40000000000 ≤ Q + 600 := by omega
  have q400 : 400 ≤ Q + 600 := by omega
  have qB : QBp (Q + 600) := ⟨Nat.le_trans hQ.1 (Nat.le_add_right _ _), q6⟩
  have hS := HSIM_ok (Q := Q + 600) hPT hB hG q4
  have k5 : (0 : Int) ≤ (k : Int) ∧ (k : Int) ≤ 511 := by omega
  obtain ⟨S2, e, c1, hF⟩ := op_1 (L := L) (Q := Q + 600) (xs := xs) hDR
  refine ⟨S2, st_0 h0 c1 hF, fun K => ?_⟩
  rw [← la_chain_k 1 (by decide)]
  unfold la_chain
  rw [if_neg (by decide), if_pos (by decide)]
  exact e K
theorem step_2 (hQ : QBp Q) (hQ2 : 40000000000 ≤ Q) (hL : L ≤ 3072) (hj : j + 6 ≤ L) (hk : k ≤ 511) (h : INV k S) : ∃ S2, INV (k + 1) S2 ∧ ∀ K : ev_St → Option (Int × ev_St), la_arm 2 (Q + 600) L xs (j : Int) K S = K S2 := by
  have h0 := h
  obtain ⟨D, ⟨hDR, hPA, hPT, hTR⟩, ⟨hLG, hB8, hRR, hRM⟩, ⟨hT1, hT2⟩, ⟨hST, hZR⟩, _, _⟩ := h
  have hG : SG S := SG_of_g hLG
  have hB : sp_BR S := BR_of_g hLG
  have hM : sp_MR S := hLG.2.1.2.2.2.2.1
  have q6 : 1000000 ≤ Q + 600 := by omega
  have q4 : 40000000000 ≤ Q + 600 := by omega
  have q400 : 400 ≤ Q + 600 := by omega
  have qB : QBp (Q + 600) := ⟨Nat.le_trans hQ.1 (Nat.le_add_right _ _), q6⟩
  have hS := HSIM_ok (Q := Q + 600) hPT hB hG q4
  have k5 : (0 : Int) ≤ (k : Int) ∧ (k : Int) ≤ 511 := by omega
  obtain ⟨S2, e, c1, c2, hF⟩ := op_2 (Q := Q + 600) (xs := xs) q6 hDR hPA hL hj
  refine ⟨S2, st_2 h0 c1 c2 hF, fun K => ?_⟩
  rw [← la_chain_k 2 (by decide)]
  unfold la_chain
  rw [if_neg (by decide), if_neg (by decide), if_pos (by decide)]
  exact e K
theorem step_3 (hQ : QBp Q) (hQ2 : 40000000000 ≤ Q) (hL : L ≤ 3072) (hj : j + 6 ≤ L) (hk : k ≤ 511) (h : INV k S) : ∃ S2, INV (k + 1) S2 ∧ ∀ K : ev_St → Option (Int × ev_St), la_arm 3 (Q + 600) L xs (j : Int) K S = K S2 := by
  have h0 := h
  obtain ⟨D, ⟨hDR, hPA, hPT, hTR⟩, ⟨hLG, hB8, hRR, hRM⟩, ⟨hT1, hT2⟩, ⟨hST, hZR⟩, _, _⟩ := h
  have hG : SG S := SG_of_g hLG
  have hB : sp_BR S := BR_of_g hLG
  have hM : sp_MR S := hLG.2.1.2.2.2.2.1
  have q6 : 1000000 ≤ Q + 600 := by omega
  have q4 : 40000000000 ≤ Q + 600 := by omega
  have q400 : 400 ≤ Q + 600 := by omega
  have qB : QBp (Q + 600) := ⟨Nat.le_trans hQ.1 (Nat.le_add_right _ _), q6⟩
  have hS := HSIM_ok (Q := Q + 600) hPT hB hG q4
  have k5 : (0 : Int) ≤ (k : Int) ∧ (k : Int) ≤ 511 := by omega
  obtain ⟨S2, e, c1, c2, c3, hF, c12, h5, hp⟩ := op_3b (Q := Q + 600) (xs := xs) qB hDR hPA hPT hL hj
  refine ⟨S2, st_3 h0 c1 c2 c3 c12 h5 hp hF, fun K => ?_⟩
  rw [← la_chain_k 3 (by decide)]
  unfold la_chain
  rw [if_neg (by decide), if_neg (by decide), if_neg (by decide), if_pos (by decide)]
  exact e K
theorem step_4 (hQ : QBp Q) (hQ2 : 40000000000 ≤ Q) (hL : L ≤ 3072) (hj : j + 6 ≤ L) (hk : k ≤ 511) (h : INV k S) : ∃ S2, INV (k + 1) S2 ∧ ∀ K : ev_St → Option (Int × ev_St), la_arm 4 (Q + 600) L xs (j : Int) K S = K S2 := by
  have h0 := h
  obtain ⟨D, ⟨hDR, hPA, hPT, hTR⟩, ⟨hLG, hB8, hRR, hRM⟩, ⟨hT1, hT2⟩, ⟨hST, hZR⟩, _, _⟩ := h
  have hG : SG S := SG_of_g hLG
  have hB : sp_BR S := BR_of_g hLG
  have hM : sp_MR S := hLG.2.1.2.2.2.2.1
  have q6 : 1000000 ≤ Q + 600 := by omega
  have q4 : 40000000000 ≤ Q + 600 := by omega
  have q400 : 400 ≤ Q + 600 := by omega
  have qB : QBp (Q + 600) := ⟨Nat.le_trans hQ.1 (Nat.le_add_right _ _), q6⟩
  have hS := HSIM_ok (Q := Q + 600) hPT hB hG q4
  have k5 : (0 : Int) ≤ (k : Int) ∧ (k : Int) ≤ 511 := by omega
  obtain ⟨S2, e, c1, c4, hF, h7⟩ := op_4b (Q := Q + 600) (xs := xs) q6 hDR hTR hL hj
  refine ⟨S2, st_t h0 c1 c4 h7 hF, fun K => ?_⟩
  rw [← la_chain_k 4 (by decide)]
  unfold la_chain
  rw [if_neg (by decide), if_neg (by decide), if_neg (by decide), if_neg (by decide), if_pos (by decide)]
  exact e K
theorem step_5 (hQ : QBp Q) (hQ2 : 40000000000 ≤ Q) (hL : L ≤ 3072) (hj : j + 6 ≤ L) (hk : k ≤ 511) (h : INV k S) : ∃ S2, INV (k + 1) S2 ∧ ∀ K : ev_St → Option (Int × ev_St), la_arm 5 (Q + 600) L xs (j : Int) K S = K S2 := by
  have h0 := h
  obtain ⟨D, ⟨hDR, hPA, hPT, hTR⟩, ⟨hLG, hB8, hRR, hRM⟩, ⟨hT1, hT2⟩, ⟨hST, hZR⟩, _, _⟩ := h
  have hG : SG S := SG_of_g hLG
  have hB : sp_BR S := BR_of_g hLG
  have hM : sp_MR S := hLG.2.1.2.2.2.2.1
  have q6 : 1000000 ≤ Q + 600 := by omega
  have q4 : 40000000000 ≤ Q + 600 := by omega
  have q400 : 400 ≤ Q + 600 := by omega
  have qB : QBp (Q + 600) := ⟨Nat.le_trans hQ.1 (Nat.le_add_right _ _), q6⟩
  have hS := HSIM_ok (Q := Q + 600) hPT hB hG q4
  have k5 : (0 : Int) ≤ (k : Int) ∧ (k : Int) ≤ 511 := by omega
  obtain ⟨S2, e, hF⟩ := op_5 (Q := Q + 600) (xs := xs) hPT hL hj
  refine ⟨S2, st_c h0 hF, fun K => ?_⟩
  rw [← la_chain_k 5 (by decide)]
  unfold la_chain
  rw [if_neg (by decide), if_neg (by decide), if_neg (by decide), if_neg (by decide), if_neg (by decide), if_pos (by decide)]
  exact e K
theorem step_6 (hQ : QBp Q) (hQ2 : 40000000000 ≤ Q) (hL : L ≤ 3072) (hj : j + 6 ≤ L) (hk : k ≤ 511) (h : INV k S) : ∃ S2, INV (k + 1) S2 ∧ ∀ K : ev_St → Option (Int × ev_St), la_arm 6 (Q + 600) L xs (j : Int) K S = K S2 := by
  have h0 := h
  obtain ⟨D, ⟨hDR, hPA, hPT, hTR⟩, ⟨hLG, hB8, hRR, hRM⟩, ⟨hT1, hT2⟩, ⟨hST, hZR⟩, _, _⟩ := h
  have hG : SG S := SG_of_g hLG
  have hB : sp_BR S := BR_of_g hLG
  have hM : sp_MR S := hLG.2.1.2.2.2.2.1
  have q6 : 1000000 ≤ Q + 600 := by omega
  have q4 : 40000000000 ≤ Q + 600 := by omega
  have q400 : 400 ≤ Q + 600 := by omega
  have qB : QBp (Q + 600) := ⟨Nat.le_trans hQ.1 (Nat.le_add_right _ _), q6⟩
  have hS := HSIM_ok (Q := Q + 600) hPT hB hG q4
  have k5 : (0 : Int) ≤ (k : Int) ∧ (k : Int) ≤ 511 := by omega
  obtain ⟨S2, e, hF⟩ := op_6 (Q := Q + 600) (xs := xs) hPT hL hj
  refine ⟨S2, st_c h0 hF, fun K => ?_⟩
  rw [← la_chain_k 6 (by decide)]
  unfold la_chain
  rw [if_neg (by decide), if_neg (by decide), if_neg (by decide), if_neg (by decide), if_neg (by decide), if_neg (by decide), if_pos (by decide)]
  exact e K
theorem step_7 (hQ : QBp Q) (hQ2 : 40000000000 ≤ Q) (hL : L ≤ 3072) (hj : j + 6 ≤ L) (hk : k ≤ 511) (h : INV k S) : ∃ S2, INV (k + 1) S2 ∧ ∀ K : ev_St → Option (Int × ev_St), la_arm 7 (Q + 600) L xs (j : Int) K S = K S2 := by
  have h0 := h
  obtain ⟨D, ⟨hDR, hPA, hPT, hTR⟩, ⟨hLG, hB8, hRR, hRM⟩, ⟨hT1, hT2⟩, ⟨hST, hZR⟩, _, _⟩ := h
  have hG : SG S := SG_of_g hLG
  have hB : sp_BR S := BR_of_g hLG
  have hM : sp_MR S := hLG.2.1.2.2.2.2.1
  have q6 : 1000000 ≤ Q + 600 := by omega
  have q4 : 40000000000 ≤ Q + 600 := by omega
  have q400 : 400 ≤ Q + 600 := by omega
  have qB : QBp (Q + 600) := ⟨Nat.le_trans hQ.1 (Nat.le_add_right _ _), q6⟩
  have hS := HSIM_ok (Q := Q + 600) hPT hB hG q4
  have k5 : (0 : Int) ≤ (k : Int) ∧ (k : Int) ≤ 511 := by omega
  obtain ⟨S2, e, hF⟩ := op_7 (Q := Q + 600) (xs := xs) q6 hPT hL hj
  refine ⟨S2, st_7 h0 hF, fun K => ?_⟩
  rw [← la_chain_k 7 (by decide)]
  unfold la_chain
  rw [if_neg (by decide), if_neg (by decide), if_neg (by decide), if_neg (by decide), if_neg (by decide), if_neg (by decide), if_neg (by decide), if_pos (by decide)]
  exact e K
theorem step_8 (hQ : QBp Q) (hQ2 : 40000000000 ≤ Q) (hL : L ≤ 3072) (hj : j + 6 ≤ L) (hk : k ≤ 511) (h : INV k S) : ∃ S2, INV (k + 1) S2 ∧ ∀ K : ev_St → Option (Int × ev_St), la_arm 8 (Q + 600) L xs (j : Int) K S = K S2 := by
  have h0 := h
  obtain ⟨D, ⟨hDR, hPA, hPT, hTR⟩, ⟨hLG, hB8, hRR, hRM⟩, ⟨hT1, hT2⟩, ⟨hST, hZR⟩, _, _⟩ := h
  have hG : SG S := SG_of_g hLG
  have hB : sp_BR S := BR_of_g hLG
  have hM : sp_MR S := hLG.2.1.2.2.2.2.1
  have q6 : 1000000 ≤ Q + 600 := by omega
  have q4 : 40000000000 ≤ Q + 600 := by omega
  have q400 : 400 ≤ Q + 600 := by omega
  have qB : QBp (Q + 600) := ⟨Nat.le_trans hQ.1 (Nat.le_add_right _ _), q6⟩
  have hS := HSIM_ok (Q := Q + 600) hPT hB hG q4
  have k5 : (0 : Int) ≤ (k : Int) ∧ (k : Int) ≤ 511 := by omega
  obtain ⟨S2, e, hF⟩ := op_8 (Q := Q + 600) (xs := xs) q6 hPT hL hj
  refine ⟨S2, st_7 h0 hF, fun K => ?_⟩
  rw [← la_chain_k 8 (by decide)]
  unfold la_chain
  rw [if_neg (by decide), if_neg (by decide), if_neg (by decide), if_neg (by decide), if_neg (by decide), if_neg (by decide), if_neg (by decide), if_neg (by decide), if_pos (by decide)]
  exact e K
theorem step_9 (hQ : QBp Q) (hQ2 : 40000000000 ≤ Q) (hL : L ≤ 3072) (hj : j + 6 ≤ L) (hk : k ≤ 511) (h : INV k S) : ∃ S2, INV (k + 1) S2 ∧ ∀ K : ev_St → Option (Int × ev_St), la_arm 9 (Q + 600) L xs (j : Int) K S = K S2 := by
  have h0 := h
  obtain ⟨D, ⟨hDR, hPA, hPT, hTR⟩, ⟨hLG, hB8, hRR, hRM⟩, ⟨hT1, hT2⟩, ⟨hST, hZR⟩, _, _⟩ := h
  have hG : SG S := SG_of_g hLG
  have hB : sp_BR S := BR_of_g hLG
  have hM : sp_MR S := hLG.2.1.2.2.2.2.1
  have q6 : 1000000 ≤ Q + 600 := by omega
  have q4 : 40000000000 ≤ Q + 600 := by omega
  have q400 : 400 ≤ Q + 600 := by omega
  have qB : QBp (Q + 600) := ⟨Nat.le_trans hQ.1 (Nat.le_add_right _ _), q6⟩
  have hS := HSIM_ok (Q := Q + 600) hPT hB hG q4
  have k5 : (0 : Int) ≤ (k : Int) ∧ (k : Int) ≤ 511 := by omega
  obtain ⟨S2, e, hF⟩ := op_9 (Q := Q + 600) (xs := xs) q6 hPT hL hj
  refine ⟨S2, st_7 h0 hF, fun K => ?_⟩
  rw [← la_chain_k 9 (by decide)]
  unfold la_chain
  rw [if_neg (by decide), if_neg (by decide), if_neg (by decide), if_neg (by decide), if_neg (by decide), if_neg (by decide), if_neg (by decide), if_neg (by decide), if_neg (by decide), if_pos (by decide)]
  exact e K
theorem step_10 (hQ : QBp Q) (hQ2 : 40000000000 ≤ Q) (hL : L ≤ 3072) (hj : j + 6 ≤ L) (hk : k ≤ 511) (h : INV k S) : ∃ S2, INV (k + 1) S2 ∧ ∀ K : ev_St → Option (Int × ev_St), la_arm 10 (Q + 600) L xs (j : Int) K S = K S2 := by
  have h0 := h
  obtain ⟨D, ⟨hDR, hPA, hPT, hTR⟩, ⟨hLG, hB8, hRR, hRM⟩, ⟨hT1, hT2⟩, ⟨hST, hZR⟩, _, _⟩ := h
  have hG : SG S := SG_of_g hLG
  have hB : sp_BR S := BR_of_g hLG
  have hM : sp_MR S := hLG.2.1.2.2.2.2.1
  have q6 : 1000000 ≤ Q + 600 := by omega
  have q4 : 40000000000 ≤ Q + 600 := by omega
  have q400 : 400 ≤ Q + 600 := by omega
  have qB : QBp (Q + 600) := ⟨Nat.le_trans hQ.1 (Nat.le_add_right _ _), q6⟩
  have hS := HSIM_ok (Q := Q + 600) hPT hB hG q4
  have k5 : (0 : Int) ≤ (k : Int) ∧ (k : Int) ≤ 511 := by omega
  obtain ⟨S2, e, hF⟩ := op_10 (Q := Q + 600) (xs := xs) hS q400 hPT hB hL hj
  refine ⟨S2, st_s h0 hF, fun K => ?_⟩
  rw [← la_chain_k 10 (by decide)]
  unfold la_chain
  rw [if_neg (by decide), if_neg (by decide), if_neg (by decide), if_neg (by decide), if_neg (by decide), if_neg (by decide), if_neg (by decide), if_neg (by decide), if_neg (by decide), if_neg (by decide), if_pos (by decide)]
  exact e K
theorem step_11 (hQ : QBp Q) (hQ2 : 40000000000 ≤ Q) (hL : L ≤ 3072) (hj : j + 6 ≤ L) (hk : k ≤ 511) (h : INV k S) : ∃ S2, INV (k + 1) S2 ∧ ∀ K : ev_St → Option (Int × ev_St), la_arm 11 (Q + 600) L xs (j : Int) K S = K S2 := by
  have h0 := h
  obtain ⟨D, ⟨hDR, hPA, hPT, hTR⟩, ⟨hLG, hB8, hRR, hRM⟩, ⟨hT1, hT2⟩, ⟨hST, hZR⟩, _, _⟩ := h
  have hG : SG S := SG_of_g hLG
  have hB : sp_BR S := BR_of_g hLG
  have hM : sp_MR S := hLG.2.1.2.2.2.2.1
  have q6 : 1000000 ≤ Q + 600 := by omega
  have q4 : 40000000000 ≤ Q + 600 := by omega
  have q400 : 400 ≤ Q + 600 := by omega
  have qB : QBp (Q + 600) := ⟨Nat.le_trans hQ.1 (Nat.le_add_right _ _), q6⟩
  have hS := HSIM_ok (Q := Q + 600) hPT hB hG q4
  have k5 : (0 : Int) ≤ (k : Int) ∧ (k : Int) ≤ 511 := by omega
  obtain ⟨S2, e, hF⟩ := op_11 (Q := Q + 600) (xs := xs) hS q400 hPT hB hL hj
  refine ⟨S2, st_s h0 hF, fun K => ?_⟩
  rw [← la_chain_k 11 (by decide)]
  unfold la_chain
  rw [if_neg (by decide), if_neg (by decide), if_neg (by decide), if_neg (by decide), if_neg (by decide), if_neg (by decide), if_neg (by decide), if_neg (by decide), if_neg (by decide), if_neg (by decide), if_neg (by decide), if_pos (by decide)]
  exact e K
theorem step_12 (hQ : QBp Q) (hQ2 : 40000000000 ≤ Q) (hL : L ≤ 3072) (hj : j + 6 ≤ L) (hk : k ≤ 511) (h : INV k S) : ∃ S2, INV (k + 1) S2 ∧ ∀ K : ev_St → Option (Int × ev_St), la_arm 12 (Q + 600) L xs (j : Int) K S = K S2 := by
  have h0 := h
  obtain ⟨D, ⟨hDR, hPA, hPT, hTR⟩, ⟨hLG, hB8, hRR, hRM⟩, ⟨hT1, hT2⟩, ⟨hST, hZR⟩, _, _⟩ := h
  have hG : SG S := SG_of_g hLG
  have hB : sp_BR S := BR_of_g hLG
  have hM : sp_MR S := hLG.2.1.2.2.2.2.1
  have q6 : 1000000 ≤ Q + 600 := by omega
  have q4 : 40000000000 ≤ Q + 600 := by omega
  have q400 : 400 ≤ Q + 600 := by omega
  have qB : QBp (Q + 600) := ⟨Nat.le_trans hQ.1 (Nat.le_add_right _ _), q6⟩
  have hS := HSIM_ok (Q := Q + 600) hPT hB hG q4
  have k5 : (0 : Int) ≤ (k : Int) ∧ (k : Int) ≤ 511 := by omega
  obtain ⟨S2, e, hF, c9, c10⟩ := op_12b (Q := Q + 600) (xs := xs) (B := 90 * k) hS q6 hPT hB hG hB8.1 hT1 hT2 (by omega) hL hj
  refine ⟨S2, st_e h0 c9 c10 hF, fun K => ?_⟩
  rw [← la_chain_k 12 (by decide)]
  unfold la_chain
  rw [if_neg (by decide), if_neg (by decide), if_neg (by decide), if_neg (by decide), if_neg (by decide), if_neg (by decide), if_neg (by decide), if_neg (by decide), if_neg (by decide), if_neg (by decide), if_neg (by decide), if_neg (by decide), if_pos (by decide)]
  exact e K
theorem step_13 (hQ : QBp Q) (hQ2 : 40000000000 ≤ Q) (hL : L ≤ 3072) (hj : j + 6 ≤ L) (hk : k ≤ 511) (h : INV k S) : ∃ S2, INV (k + 1) S2 ∧ ∀ K : ev_St → Option (Int × ev_St), la_arm 13 (Q + 600) L xs (j : Int) K S = K S2 := by
  have h0 := h
  obtain ⟨D, ⟨hDR, hPA, hPT, hTR⟩, ⟨hLG, hB8, hRR, hRM⟩, ⟨hT1, hT2⟩, ⟨hST, hZR⟩, _, _⟩ := h
  have hG : SG S := SG_of_g hLG
  have hB : sp_BR S := BR_of_g hLG
  have hM : sp_MR S := hLG.2.1.2.2.2.2.1
  have q6 : 1000000 ≤ Q + 600 := by omega
  have q4 : 40000000000 ≤ Q + 600 := by omega
  have q400 : 400 ≤ Q + 600 := by omega
  have qB : QBp (Q + 600) := ⟨Nat.le_trans hQ.1 (Nat.le_add_right _ _), q6⟩
  have hS := HSIM_ok (Q := Q + 600) hPT hB hG q4
  have k5 : (0 : Int) ≤ (k : Int) ∧ (k : Int) ≤ 511 := by omega
  obtain ⟨S2, e, hF⟩ := op_13 (Q := Q + 600) (xs := xs) hS q400 hPT hB hL hj
  refine ⟨S2, st_s h0 hF, fun K => ?_⟩
  rw [← la_chain_k 13 (by decide)]
  unfold la_chain
  rw [if_neg (by decide), if_neg (by decide), if_neg (by decide), if_neg (by decide), if_neg (by decide), if_neg (by decide), if_neg (by decide), if_neg (by decide), if_neg (by decide), if_neg (by decide), if_neg (by decide), if_neg (by decide), if_neg (by decide), if_pos (by decide)]
  exact e K
theorem step_14 (hQ : QBp Q) (hQ2 : 40000000000 ≤ Q) (hL : L ≤ 3072) (hj : j + 6 ≤ L) (hk : k ≤ 511) (h : INV k S) : ∃ S2, INV (k + 1) S2 ∧ ∀ K : ev_St → Option (Int × ev_St), la_arm 14 (Q + 600) L xs (j : Int) K S = K S2 := by
  have h0 := h
  obtain ⟨D, ⟨hDR, hPA, hPT, hTR⟩, ⟨hLG, hB8, hRR, hRM⟩, ⟨hT1, hT2⟩, ⟨hST, hZR⟩, _, _⟩ := h
  have hG : SG S := SG_of_g hLG
  have hB : sp_BR S := BR_of_g hLG
  have hM : sp_MR S := hLG.2.1.2.2.2.2.1
  have q6 : 1000000 ≤ Q + 600 := by omega
  have q4 : 40000000000 ≤ Q + 600 := by omega
  have q400 : 400 ≤ Q + 600 := by omega
  have qB : QBp (Q + 600) := ⟨Nat.le_trans hQ.1 (Nat.le_add_right _ _), q6⟩
  have hS := HSIM_ok (Q := Q + 600) hPT hB hG q4
  have k5 : (0 : Int) ≤ (k : Int) ∧ (k : Int) ≤ 511 := by omega
  obtain ⟨S2, e, hF⟩ := op_14 (Q := Q + 600) (xs := xs) hS q400 hPT hB hL hj
  refine ⟨S2, st_s h0 hF, fun K => ?_⟩
  rw [← la_chain_k 14 (by decide)]
  unfold la_chain
  rw [if_neg (by decide), if_neg (by decide), if_neg (by decide), if_neg (by decide), if_neg (by decide), if_neg (by decide), if_neg (by decide), if_neg (by decide), if_neg (by decide), if_neg (by decide), if_neg (by decide), if_neg (by decide), if_neg (by decide), if_neg (by decide), if_pos (by decide)]
  exact e K
theorem step_15 (hQ : QBp Q) (hQ2 : 40000000000 ≤ Q) (hL : L ≤ 3072) (hj : j + 6 ≤ L) (hk : k ≤ 511) (h : INV k S) : ∃ S2, INV (k + 1) S2 ∧ ∀ K : ev_St → Option (Int × ev_St), la_arm 15 (Q + 600) L xs (j : Int) K S = K S2 := by
  have h0 := h
  obtain ⟨D, ⟨hDR, hPA, hPT, hTR⟩, ⟨hLG, hB8, hRR, hRM⟩, ⟨hT1, hT2⟩, ⟨hST, hZR⟩, _, _⟩ := h
  have hG : SG S := SG_of_g hLG
  have hB : sp_BR S := BR_of_g hLG
  have hM : sp_MR S := hLG.2.1.2.2.2.2.1
  have q6 : 1000000 ≤ Q + 600 := by omega
  have q4 : 40000000000 ≤ Q + 600 := by omega
  have q400 : 400 ≤ Q + 600 := by omega
  have qB : QBp (Q + 600) := ⟨Nat.le_trans hQ.1 (Nat.le_add_right _ _), q6⟩
  have hS := HSIM_ok (Q := Q + 600) hPT hB hG q4
  have k5 : (0 : Int) ≤ (k : Int) ∧ (k : Int) ≤ 511 := by omega
  obtain ⟨S2, e, hF⟩ := op_15 (Q := Q + 600) (xs := xs) hS q400 hPT hB hL hj
  refine ⟨S2, st_s h0 hF, fun K => ?_⟩
  rw [← la_chain_k 15 (by decide)]
  unfold la_chain
  rw [if_neg (by decide), if_neg (by decide), if_neg (by decide), if_neg (by decide), if_neg (by decide), if_neg (by decide), if_neg (by decide), if_neg (by decide), if_neg (by decide), if_neg (by decide), if_neg (by decide), if_neg (by decide), if_neg (by decide), if_neg (by decide), if_neg (by decide), if_pos (by decide)]
  exact e K
theorem step_16 (hQ : QBp Q) (hQ2 : 40000000000 ≤ Q) (hL : L ≤ 3072) (hj : j + 6 ≤ L) (hk : k ≤ 511) (h : INV k S) : ∃ S2, INV (k + 1) S2 ∧ ∀ K : ev_St → Option (Int × ev_St), la_arm 16 (Q + 600) L xs (j : Int) K S = K S2 := by
  have h0 := h
  obtain ⟨D, ⟨hDR, hPA, hPT, hTR⟩, ⟨hLG, hB8, hRR, hRM⟩, ⟨hT1, hT2⟩, ⟨hST, hZR⟩, _, _⟩ := h
  have hG : SG S := SG_of_g hLG
  have hB : sp_BR S := BR_of_g hLG
  have hM : sp_MR S := hLG.2.1.2.2.2.2.1
  have q6 : 1000000 ≤ Q + 600 := by omega
  have q4 : 40000000000 ≤ Q + 600 := by omega
  have q400 : 400 ≤ Q + 600 := by omega
  have qB : QBp (Q + 600) := ⟨Nat.le_trans hQ.1 (Nat.le_add_right _ _), q6⟩
  have hS := HSIM_ok (Q := Q + 600) hPT hB hG q4
  have k5 : (0 : Int) ≤ (k : Int) ∧ (k : Int) ≤ 511 := by omega
  obtain ⟨S2, e, hF⟩ := op_16 (Q := Q + 600) (xs := xs) hS q400 hPT hB hL hj
  refine ⟨S2, st_s h0 hF, fun K => ?_⟩
  rw [← la_chain_k 16 (by decide)]
  unfold la_chain
  rw [if_neg (by decide), if_neg (by decide), if_neg (by decide), if_neg (by decide), if_neg (by decide), if_neg (by decide), if_neg (by decide), if_neg (by decide), if_neg (by decide), if_neg (by decide), if_neg (by decide), if_neg (by decide), if_neg (by decide), if_neg (by decide), if_neg (by decide), if_neg (by decide), if_pos (by decide)]
  exact e K
theorem step_17 (hQ : QBp Q) (hQ2 : 40000000000 ≤ Q) (hL : L ≤ 3072) (hj : j + 6 ≤ L) (hk : k ≤ 511) (h : INV k S) : ∃ S2, INV (k + 1) S2 ∧ ∀ K : ev_St → Option (Int × ev_St), la_arm 17 (Q + 600) L xs (j : Int) K S = K S2 := by
  have h0 := h
  obtain ⟨D, ⟨hDR, hPA, hPT, hTR⟩, ⟨hLG, hB8, hRR, hRM⟩, ⟨hT1, hT2⟩, ⟨hST, hZR⟩, _, _⟩ := h
  have hG : SG S := SG_of_g hLG
  have hB : sp_BR S := BR_of_g hLG
  have hM : sp_MR S := hLG.2.1.2.2.2.2.1
  have q6 : 1000000 ≤ Q + 600 := by omega
  have q4 : 40000000000 ≤ Q + 600 := by omega
  have q400 : 400 ≤ Q + 600 := by omega
  have qB : QBp (Q + 600) := ⟨Nat.le_trans hQ.1 (Nat.le_add_right _ _), q6⟩
  have hS := HSIM_ok (Q := Q + 600) hPT hB hG q4
  have k5 : (0 : Int) ≤ (k : Int) ∧ (k : Int) ≤ 511 := by omega
  obtain ⟨D', S2, e, c1, c5, c6, hF⟩ := op_17_g (Q := Q + 600) (xs := xs) q6 k5 hDR hLG hB8 hL hj
  refine ⟨S2, st_g h0 c1 c5 c6 hF, fun K => ?_⟩
  rw [← la_chain_k 17 (by decide)]
  unfold la_chain
  rw [if_neg (by decide), if_neg (by decide), if_neg (by decide), if_neg (by decide), if_neg (by decide), if_neg (by decide), if_neg (by decide), if_neg (by decide), if_neg (by decide), if_neg (by decide), if_neg (by decide), if_neg (by decide), if_neg (by decide), if_neg (by decide), if_neg (by decide), if_neg (by decide), if_neg (by decide), if_pos (by decide)]
  exact e K
theorem step_18 (hQ : QBp Q) (hQ2 : 40000000000 ≤ Q) (hL : L ≤ 3072) (hj : j + 6 ≤ L) (hk : k ≤ 511) (h : INV k S) : ∃ S2, INV (k + 1) S2 ∧ ∀ K : ev_St → Option (Int × ev_St), la_arm 18 (Q + 600) L xs (j : Int) K S = K S2 := by
  have h0 := h
  obtain ⟨D, ⟨hDR, hPA, hPT, hTR⟩, ⟨hLG, hB8, hRR, hRM⟩, ⟨hT1, hT2⟩, ⟨hST, hZR⟩, _, _⟩ := h
  have hG : SG S := SG_of_g hLG
  have hB : sp_BR S := BR_of_g hLG
  have hM : sp_MR S := hLG.2.1.2.2.2.2.1
  have q6 : 1000000 ≤ Q + 600 := by omega
  have q4 : 40000000000 ≤ Q + 600 := by omega
  have q400 : 400 ≤ Q + 600 := by omega
  have qB : QBp (Q + 600) := ⟨Nat.le_trans hQ.1 (Nat.le_add_right _ _), q6⟩
  have hS := HSIM_ok (Q := Q + 600) hPT hB hG q4
  have k5 : (0 : Int) ≤ (k : Int) ∧ (k : Int) ≤ 511 := by omega
  obtain ⟨S2, e, hF⟩ := op_18 (Q := Q + 600) (xs := xs) hB hL hj
  refine ⟨S2, st_c h0 hF, fun K => ?_⟩
  rw [← la_chain_k 18 (by decide)]
  unfold la_chain
  rw [if_neg (by decide), if_neg (by decide), if_neg (by decide), if_neg (by decide), if_neg (by decide), if_neg (by decide), if_neg (by decide), if_neg (by decide), if_neg (by decide), if_neg (by decide), if_neg (by decide), if_neg (by decide), if_neg (by decide), if_neg (by decide), if_neg (by decide), if_neg (by decide), if_neg (by decide), if_neg (by decide), if_pos (by decide)]
  exact e K
theorem step_19 (hQ : QBp Q) (hQ2 : 40000000000 ≤ Q) (hL : L ≤ 3072) (hj : j + 6 ≤ L) (hk : k ≤ 511) (h : INV k S) : ∃ S2, INV (k + 1) S2 ∧ ∀ K : ev_St → Option (Int × ev_St), la_arm 19 (Q + 600) L xs (j : Int) K S = K S2 := by
  have h0 := h
  obtain ⟨D, ⟨hDR, hPA, hPT, hTR⟩, ⟨hLG, hB8, hRR, hRM⟩, ⟨hT1, hT2⟩, ⟨hST, hZR⟩, _, _⟩ := h
  have hG : SG S := SG_of_g hLG
  have hB : sp_BR S := BR_of_g hLG
  have hM : sp_MR S := hLG.2.1.2.2.2.2.1
  have q6 : 1000000 ≤ Q + 600 := by omega
  have q4 : 40000000000 ≤ Q + 600 := by omega
  have q400 : 400 ≤ Q + 600 := by omega
  have qB : QBp (Q + 600) := ⟨Nat.le_trans hQ.1 (Nat.le_add_right _ _), q6⟩
  have hS := HSIM_ok (Q := Q + 600) hPT hB hG q4
  have k5 : (0 : Int) ≤ (k : Int) ∧ (k : Int) ≤ 511 := by omega
  obtain ⟨S2, e, hF⟩ := op_19 (Q := Q + 600) (xs := xs) hB hL hj
  refine ⟨S2, st_c h0 hF, fun K => ?_⟩
  rw [← la_chain_k 19 (by decide)]
  unfold la_chain
  rw [if_neg (by decide), if_neg (by decide), if_neg (by decide), if_neg (by decide), if_neg (by decide), if_neg (by decide), if_neg (by decide), if_neg (by decide), if_neg (by decide), if_neg (by decide), if_neg (by decide), if_neg (by decide), if_neg (by decide), if_neg (by decide), if_neg (by decide), if_neg (by decide), if_neg (by decide), if_neg (by decide), if_neg (by decide), if_pos (by decide)]
  exact e K
theorem step_20 (hQ : QBp Q) (hQ2 : 40000000000 ≤ Q) (hL : L ≤ 3072) (hj : j + 6 ≤ L) (hk : k ≤ 511) (h : INV k S) : ∃ S2, INV (k + 1) S2 ∧ ∀ K : ev_St → Option (Int × ev_St), la_arm 20 (Q + 600) L xs (j : Int) K S = K S2 := by
  have h0 := h
  obtain ⟨D, ⟨hDR, hPA, hPT, hTR⟩, ⟨hLG, hB8, hRR, hRM⟩, ⟨hT1, hT2⟩, ⟨hST, hZR⟩, _, _⟩ := h
  have hG : SG S := SG_of_g hLG
  have hB : sp_BR S := BR_of_g hLG
  have hM : sp_MR S := hLG.2.1.2.2.2.2.1
  have q6 : 1000000 ≤ Q + 600 := by omega
  have q4 : 40000000000 ≤ Q + 600 := by omega
  have q400 : 400 ≤ Q + 600 := by omega
  have qB : QBp (Q + 600) := ⟨Nat.le_trans hQ.1 (Nat.le_add_right _ _), q6⟩
  have hS := HSIM_ok (Q := Q + 600) hPT hB hG q4
  have k5 : (0 : Int) ≤ (k : Int) ∧ (k : Int) ≤ 511 := by omega
  obtain ⟨D', S2, e, c5, c6, c7, c8, hF⟩ := op_20_g (Q := Q + 600) (xs := xs) q4 k5 hPT hTR hG hLG hB8 hRR hRM hL hj
  refine ⟨S2, st_r h0 c5 c6 c7 c8 hF, fun K => ?_⟩
  rw [← la_chain_k 20 (by decide)]
  unfold la_chain
  rw [if_neg (by decide), if_neg (by decide), if_neg (by decide), if_neg (by decide), if_neg (by decide), if_neg (by decide), if_neg (by decide), if_neg (by decide), if_neg (by decide), if_neg (by decide), if_neg (by decide), if_neg (by decide), if_neg (by decide), if_neg (by decide), if_neg (by decide), if_neg (by decide), if_neg (by decide), if_neg (by decide), if_neg (by decide), if_neg (by decide), if_pos (by decide)]
  exact e K
theorem step_21 (hQ : QBp Q) (hQ2 : 40000000000 ≤ Q) (hL : L ≤ 3072) (hj : j + 6 ≤ L) (hk : k ≤ 511) (h : INV k S) : ∃ S2, INV (k + 1) S2 ∧ ∀ K : ev_St → Option (Int × ev_St), la_arm 21 (Q + 600) L xs (j : Int) K S = K S2 := by
  have h0 := h
  obtain ⟨D, ⟨hDR, hPA, hPT, hTR⟩, ⟨hLG, hB8, hRR, hRM⟩, ⟨hT1, hT2⟩, ⟨hST, hZR⟩, _, _⟩ := h
  have hG : SG S := SG_of_g hLG
  have hB : sp_BR S := BR_of_g hLG
  have hM : sp_MR S := hLG.2.1.2.2.2.2.1
  have q6 : 1000000 ≤ Q + 600 := by omega
  have q4 : 40000000000 ≤ Q + 600 := by omega
  have q400 : 400 ≤ Q + 600 := by omega
  have qB : QBp (Q + 600) := ⟨Nat.le_trans hQ.1 (Nat.le_add_right _ _), q6⟩
  have hS := HSIM_ok (Q := Q + 600) hPT hB hG q4
  have k5 : (0 : Int) ≤ (k : Int) ∧ (k : Int) ≤ 511 := by omega
  obtain ⟨S2, e, c5, hF⟩ := op_21 (Q := Q + 600) (xs := xs) hB hM hL hj
  refine ⟨S2, st_m h0 c5 hF, fun K => ?_⟩
  rw [← la_chain_k 21 (by decide)]
  unfold la_chain
  rw [if_neg (by decide), if_neg (by decide), if_neg (by decide), if_neg (by decide), if_neg (by decide), if_neg (by decide), if_neg (by decide), if_neg (by decide), if_neg (by decide), if_neg (by decide), if_neg (by decide), if_neg (by decide), if_neg (by decide), if_neg (by decide), if_neg (by decide), if_neg (by decide), if_neg (by decide), if_neg (by decide), if_neg (by decide), if_neg (by decide), if_neg (by decide), if_pos (by decide)]
  exact e K
theorem step_22 (hQ : QBp Q) (hQ2 : 40000000000 ≤ Q) (hL : L ≤ 3072) (hj : j + 6 ≤ L) (hk : k ≤ 511) (h : INV k S) : ∃ S2, INV (k + 1) S2 ∧ ∀ K : ev_St → Option (Int × ev_St), la_arm 22 (Q + 600) L xs (j : Int) K S = K S2 := by
  have h0 := h
  obtain ⟨D, ⟨hDR, hPA, hPT, hTR⟩, ⟨hLG, hB8, hRR, hRM⟩, ⟨hT1, hT2⟩, ⟨hST, hZR⟩, _, _⟩ := h
  have hG : SG S := SG_of_g hLG
  have hB : sp_BR S := BR_of_g hLG
  have hM : sp_MR S := hLG.2.1.2.2.2.2.1
  have q6 : 1000000 ≤ Q + 600 := by omega
  have q4 : 40000000000 ≤ Q + 600 := by omega
  have q400 : 400 ≤ Q + 600 := by omega
  have qB : QBp (Q + 600) := ⟨Nat.le_trans hQ.1 (Nat.le_add_right _ _), q6⟩
  have hS := HSIM_ok (Q := Q + 600) hPT hB hG q4
  have k5 : (0 : Int) ≤ (k : Int) ∧ (k : Int) ≤ 511 := by omega
  obtain ⟨S2, e, hF⟩ := op_22 (Q := Q + 600) (xs := xs) hM hL hj
  refine ⟨S2, st_c h0 hF, fun K => ?_⟩
  rw [← la_chain_k 22 (by decide)]
  unfold la_chain
  rw [if_neg (by decide), if_neg (by decide), if_neg (by decide), if_neg (by decide), if_neg (by decide), if_neg (by decide), if_neg (by decide), if_neg (by decide), if_neg (by decide), if_neg (by decide), if_neg (by decide), if_neg (by decide), if_neg (by decide), if_neg (by decide), if_neg (by decide), if_neg (by decide), if_neg (by decide), if_neg (by decide), if_neg (by decide), if_neg (by decide), if_neg (by decide), if_neg (by decide), if_pos (by decide)]
  exact e K
theorem step_23 (hQ : QBp Q) (hQ2 : 40000000000 ≤ Q) (hL : L ≤ 3072) (hj : j + 6 ≤ L) (hk : k ≤ 511) (h : INV k S) : ∃ S2, INV (k + 1) S2 ∧ ∀ K : ev_St → Option (Int × ev_St), la_arm 23 (Q + 600) L xs (j : Int) K S = K S2 := by
  have h0 := h
  obtain ⟨D, ⟨hDR, hPA, hPT, hTR⟩, ⟨hLG, hB8, hRR, hRM⟩, ⟨hT1, hT2⟩, ⟨hST, hZR⟩, _, _⟩ := h
  have hG : SG S := SG_of_g hLG
  have hB : sp_BR S := BR_of_g hLG
  have hM : sp_MR S := hLG.2.1.2.2.2.2.1
  have q6 : 1000000 ≤ Q + 600 := by omega
  have q4 : 40000000000 ≤ Q + 600 := by omega
  have q400 : 400 ≤ Q + 600 := by omega
  have qB : QBp (Q + 600) := ⟨Nat.le_trans hQ.1 (Nat.le_add_right _ _), q6⟩
  have hS := HSIM_ok (Q := Q + 600) hPT hB hG q4
  have k5 : (0 : Int) ≤ (k : Int) ∧ (k : Int) ≤ 511 := by omega
  obtain ⟨S2, e, c5, c6, hF⟩ := op_23L_g (Q := Q + 600) (xs := xs) hLG hB8 hL hj
  refine ⟨S2, st_l h0 c5 c6 hF, fun K => ?_⟩
  rw [← la_chain_k 23 (by decide)]
  unfold la_chain
  rw [if_neg (by decide), if_neg (by decide), if_neg (by decide), if_neg (by decide), if_neg (by decide), if_neg (by decide), if_neg (by decide), if_neg (by decide), if_neg (by decide), if_neg (by decide), if_neg (by decide), if_neg (by decide), if_neg (by decide), if_neg (by decide), if_neg (by decide), if_neg (by decide), if_neg (by decide), if_neg (by decide), if_neg (by decide), if_neg (by decide), if_neg (by decide), if_neg (by decide), if_neg (by decide), if_pos (by decide)]
  exact e K
theorem step_24 (hQ : QBp Q) (hQ2 : 40000000000 ≤ Q) (hL : L ≤ 3072) (hj : j + 6 ≤ L) (hk : k ≤ 511) (h : INV k S) : ∃ S2, INV (k + 1) S2 ∧ ∀ K : ev_St → Option (Int × ev_St), la_arm 24 (Q + 600) L xs (j : Int) K S = K S2 := by
  have h0 := h
  obtain ⟨D, ⟨hDR, hPA, hPT, hTR⟩, ⟨hLG, hB8, hRR, hRM⟩, ⟨hT1, hT2⟩, ⟨hST, hZR⟩, _, _⟩ := h
  have hG : SG S := SG_of_g hLG
  have hB : sp_BR S := BR_of_g hLG
  have hM : sp_MR S := hLG.2.1.2.2.2.2.1
  have q6 : 1000000 ≤ Q + 600 := by omega
  have q4 : 40000000000 ≤ Q + 600 := by omega
  have q400 : 400 ≤ Q + 600 := by omega
  have qB : QBp (Q + 600) := ⟨Nat.le_trans hQ.1 (Nat.le_add_right _ _), q6⟩
  have hS := HSIM_ok (Q := Q + 600) hPT hB hG q4
  have k5 : (0 : Int) ≤ (k : Int) ∧ (k : Int) ≤ 511 := by omega
  obtain ⟨S2, e, c5, c6, hF⟩ := op_24L_g (Q := Q + 600) (xs := xs) (by omega) hLG hB8 hL hj
  refine ⟨S2, st_l h0 c5 c6 hF, fun K => ?_⟩
  rw [← la_chain_k 24 (by decide)]
  unfold la_chain
  rw [if_neg (by decide), if_neg (by decide), if_neg (by decide), if_neg (by decide), if_neg (by decide), if_neg (by decide), if_neg (by decide), if_neg (by decide), if_neg (by decide), if_neg (by decide), if_neg (by decide), if_neg (by decide), if_neg (by decide), if_neg (by decide), if_neg (by decide), if_neg (by decide), if_neg (by decide), if_neg (by decide), if_neg (by decide), if_neg (by decide), if_neg (by decide), if_neg (by decide), if_neg (by decide), if_neg (by decide), if_pos (by decide)]
  exact e K
theorem step_25 (hQ : QBp Q) (hQ2 : 40000000000 ≤ Q) (hL : L ≤ 3072) (hj : j + 6 ≤ L) (hk : k ≤ 511) (h : INV k S) : ∃ S2, INV (k + 1) S2 ∧ ∀ K : ev_St → Option (Int × ev_St), la_arm 25 (Q + 600) L xs (j : Int) K S = K S2 := by
  have h0 := h
  obtain ⟨D, ⟨hDR, hPA, hPT, hTR⟩, ⟨hLG, hB8, hRR, hRM⟩, ⟨hT1, hT2⟩, ⟨hST, hZR⟩, _, _⟩ := h
  have hG : SG S := SG_of_g hLG
  have hB : sp_BR S := BR_of_g hLG
  have hM : sp_MR S := hLG.2.1.2.2.2.2.1
  have q6 : 1000000 ≤ Q + 600 := by omega
  have q4 : 40000000000 ≤ Q + 600 := by omega
  have q400 : 400 ≤ Q + 600 := by omega
  have qB : QBp (Q + 600) := ⟨Nat.le_trans hQ.1 (Nat.le_add_right _ _), q6⟩
  have hS := HSIM_ok (Q := Q + 600) hPT hB hG q4
  have k5 : (0 : Int) ≤ (k : Int) ∧ (k : Int) ≤ 511 := by omega
  obtain ⟨S2, e, c5, hF⟩ := op_25_g (Q := Q + 600) (xs := xs) q6 (by omega) hLG hL hj
  refine ⟨S2, st_u h0 c5 (B8_u_g hLG c5 hB8 hF) hF, fun K => ?_⟩
  rw [← la_chain_k 25 (by decide)]
  unfold la_chain
  rw [if_neg (by decide), if_neg (by decide), if_neg (by decide), if_neg (by decide), if_neg (by decide), if_neg (by decide), if_neg (by decide), if_neg (by decide), if_neg (by decide), if_neg (by decide), if_neg (by decide), if_neg (by decide), if_neg (by decide), if_neg (by decide), if_neg (by decide), if_neg (by decide), if_neg (by decide), if_neg (by decide), if_neg (by decide), if_neg (by decide), if_neg (by decide), if_neg (by decide), if_neg (by decide), if_neg (by decide), if_neg (by decide), if_pos (by decide)]
  exact e K
theorem step_26 (hQ : QBp Q) (hQ2 : 40000000000 ≤ Q) (hL : L ≤ 3072) (hj : j + 6 ≤ L) (hk : k ≤ 511) (h : INV k S) : ∃ S2, INV (k + 1) S2 ∧ ∀ K : ev_St → Option (Int × ev_St), la_arm 26 (Q + 600) L xs (j : Int) K S = K S2 := by
  have h0 := h
  obtain ⟨D, ⟨hDR, hPA, hPT, hTR⟩, ⟨hLG, hB8, hRR, hRM⟩, ⟨hT1, hT2⟩, ⟨hST, hZR⟩, _, _⟩ := h
  have hG : SG S := SG_of_g hLG
  have hB : sp_BR S := BR_of_g hLG
  have hM : sp_MR S := hLG.2.1.2.2.2.2.1
  have q6 : 1000000 ≤ Q + 600 := by omega
  have q4 : 40000000000 ≤ Q + 600 := by omega
  have q400 : 400 ≤ Q + 600 := by omega
  have qB : QBp (Q + 600) := ⟨Nat.le_trans hQ.1 (Nat.le_add_right _ _), q6⟩
  have hS := HSIM_ok (Q := Q + 600) hPT hB hG q4
  have k5 : (0 : Int) ≤ (k : Int) ∧ (k : Int) ≤ 511 := by omega
  obtain ⟨S2, e, c5, hF⟩ := op_26_g (Q := Q + 600) (xs := xs) q6 (by omega) hLG hL hj
  refine ⟨S2, st_u h0 c5 (B8_u_g hLG c5 hB8 hF) hF, fun K => ?_⟩
  rw [← la_chain_k 26 (by decide)]
  unfold la_chain
  rw [if_neg (by decide), if_neg (by decide), if_neg (by decide), if_neg (by decide), if_neg (by decide), if_neg (by decide), if_neg (by decide), if_neg (by decide), if_neg (by decide), if_neg (by decide), if_neg (by decide), if_neg (by decide), if_neg (by decide), if_neg (by decide), if_neg (by decide), if_neg (by decide), if_neg (by decide), if_neg (by decide), if_neg (by decide), if_neg (by decide), if_neg (by decide), if_neg (by decide), if_neg (by decide), if_neg (by decide), if_neg (by decide), if_neg (by decide), if_pos (by decide)]
  exact e K
theorem step_27 (hQ : QBp Q) (hQ2 : 40000000000 ≤ Q) (hL : L ≤ 3072) (hj : j + 6 ≤ L) (hk : k ≤ 511) (h : INV k S) : ∃ S2, INV (k + 1) S2 ∧ ∀ K : ev_St → Option (Int × ev_St), la_arm 27 (Q + 600) L xs (j : Int) K S = K S2 := by
  have h0 := h
  obtain ⟨D, ⟨hDR, hPA, hPT, hTR⟩, ⟨hLG, hB8, hRR, hRM⟩, ⟨hT1, hT2⟩, ⟨hST, hZR⟩, _, _⟩ := h
  have hG : SG S := SG_of_g hLG
  have hB : sp_BR S := BR_of_g hLG
  have hM : sp_MR S := hLG.2.1.2.2.2.2.1
  have q6 : 1000000 ≤ Q + 600 := by omega
  have q4 : 40000000000 ≤ Q + 600 := by omega
  have q400 : 400 ≤ Q + 600 := by omega
  have qB : QBp (Q + 600) := ⟨Nat.le_trans hQ.1 (Nat.le_add_right _ _), q6⟩
  have hS := HSIM_ok (Q := Q + 600) hPT hB hG q4
  have k5 : (0 : Int) ≤ (k : Int) ∧ (k : Int) ≤ 511 := by omega
  obtain ⟨S2, e, c7, hF⟩ := op_27 (Q := Q + 600) (xs := xs) hRR hL hj
  refine ⟨S2, st_q h0 c7 hF, fun K => ?_⟩
  rw [← la_chain_k 27 (by decide)]
  unfold la_chain
  rw [if_neg (by decide), if_neg (by decide), if_neg (by decide), if_neg (by decide), if_neg (by decide), if_neg (by decide), if_neg (by decide), if_neg (by decide), if_neg (by decide), if_neg (by decide), if_neg (by decide), if_neg (by decide), if_neg (by decide), if_neg (by decide), if_neg (by decide), if_neg (by decide), if_neg (by decide), if_neg (by decide), if_neg (by decide), if_neg (by decide), if_neg (by decide), if_neg (by decide), if_neg (by decide), if_neg (by decide), if_neg (by decide), if_neg (by decide), if_neg (by decide), if_pos (by decide)]
  exact e K
theorem step_28 (hQ : QBp Q) (hQ2 : 40000000000 ≤ Q) (hL : L ≤ 3072) (hj : j + 6 ≤ L) (hk : k ≤ 511) (h : INV k S) : ∃ S2, INV (k + 1) S2 ∧ ∀ K : ev_St → Option (Int × ev_St), la_arm 28 (Q + 600) L xs (j : Int) K S = K S2 := by
  have h0 := h
  obtain ⟨D, ⟨hDR, hPA, hPT, hTR⟩, ⟨hLG, hB8, hRR, hRM⟩, ⟨hT1, hT2⟩, ⟨hST, hZR⟩, _, _⟩ := h
  have hG : SG S := SG_of_g hLG
  have hB : sp_BR S := BR_of_g hLG
  have hM : sp_MR S := hLG.2.1.2.2.2.2.1
  have q6 : 1000000 ≤ Q + 600 := by omega
  have q4 : 40000000000 ≤ Q + 600 := by omega
  have q400 : 400 ≤ Q + 600 := by omega
  have qB : QBp (Q + 600) := ⟨Nat.le_trans hQ.1 (Nat.le_add_right _ _), q6⟩
  have hS := HSIM_ok (Q := Q + 600) hPT hB hG q4
  have k5 : (0 : Int) ≤ (k : Int) ∧ (k : Int) ≤ 511 := by omega
  obtain ⟨D', S2, e, c5, c6, c7, c8, hF⟩ := op_28_g (Q := Q + 600) (xs := xs) q4 k5 hPT hTR hG hLG hB8 hRR hRM hL hj
  refine ⟨S2, st_r h0 c5 c6 c7 c8 hF, fun K => ?_⟩
  rw [← la_chain_k 28 (by decide)]
  unfold la_chain
  rw [if_neg (by decide), if_neg (by decide), if_neg (by decide), if_neg (by decide), if_neg (by decide), if_neg (by decide), if_neg (by decide), if_neg (by decide), if_neg (by decide), if_neg (by decide), if_neg (by decide), if_neg (by decide), if_neg (by decide), if_neg (by decide), if_neg (by decide), if_neg (by decide), if_neg (by decide), if_neg (by decide), if_neg (by decide), if_neg (by decide), if_neg (by decide), if_neg (by decide), if_neg (by decide), if_neg (by decide), if_neg (by decide), if_neg (by decide), if_neg (by decide), if_neg (by decide), if_pos (by decide)]
  exact e K
theorem step_29 (hQ : QBp Q) (hQ2 : 40000000000 ≤ Q) (hL : L ≤ 3072) (hj : j + 6 ≤ L) (hk : k ≤ 511) (h : INV k S) : ∃ S2, INV (k + 1) S2 ∧ ∀ K : ev_St → Option (Int × ev_St), la_arm 29 (Q + 600) L xs (j : Int) K S = K S2 := by
  have h0 := h
  obtain ⟨D, ⟨hDR, hPA, hPT, hTR⟩, ⟨hLG, hB8, hRR, hRM⟩, ⟨hT1, hT2⟩, ⟨hST, hZR⟩, _, _⟩ := h
  have hG : SG S := SG_of_g hLG
  have hB : sp_BR S := BR_of_g hLG
  have hM : sp_MR S := hLG.2.1.2.2.2.2.1
  have q6 : 1000000 ≤ Q + 600 := by omega
  have q4 : 40000000000 ≤ Q + 600 := by omega
  have q400 : 400 ≤ Q + 600 := by omega
  have qB : QBp (Q + 600) := ⟨Nat.le_trans hQ.1 (Nat.le_add_right _ _), q6⟩
  have hS := HSIM_ok (Q := Q + 600) hPT hB hG q4
  have k5 : (0 : Int) ≤ (k : Int) ∧ (k : Int) ≤ 511 := by omega
  obtain ⟨S2, e, hF, c11, c1⟩ := op_29 (Q := Q + 600) (xs := xs) q6 hPT hST hDR hL hj
  refine ⟨S2, st_f h0 c1 c11 hF, fun K => ?_⟩
  rw [← la_chain_k 29 (by decide)]
  unfold la_chain
  rw [if_neg (by decide), if_neg (by decide), if_neg (by decide), if_neg (by decide), if_neg (by decide), if_neg (by decide), if_neg (by decide), if_neg (by decide), if_neg (by decide), if_neg (by decide), if_neg (by decide), if_neg (by decide), if_neg (by decide), if_neg (by decide), if_neg (by decide), if_neg (by decide), if_neg (by decide), if_neg (by decide), if_neg (by decide), if_neg (by decide), if_neg (by decide), if_neg (by decide), if_neg (by decide), if_neg (by decide), if_neg (by decide), if_neg (by decide), if_neg (by decide), if_neg (by decide), if_neg (by decide), if_pos (by decide)]
  exact e K
theorem step_30 (hQ : QBp Q) (hQ2 : 40000000000 ≤ Q) (hL : L ≤ 3072) (hj : j + 6 ≤ L) (hk : k ≤ 511) (h : INV k S) : ∃ S2, INV (k + 1) S2 ∧ ∀ K : ev_St → Option (Int × ev_St), la_arm 30 (Q + 600) L xs (j : Int) K S = K S2 := by
  have h0 := h
  obtain ⟨D, ⟨hDR, hPA, hPT, hTR⟩, ⟨hLG, hB8, hRR, hRM⟩, ⟨hT1, hT2⟩, ⟨hST, hZR⟩, _, _⟩ := h
  have hG : SG S := SG_of_g hLG
  have hB : sp_BR S := BR_of_g hLG
  have hM : sp_MR S := hLG.2.1.2.2.2.2.1
  have q6 : 1000000 ≤ Q + 600 := by omega
  have q4 : 40000000000 ≤ Q + 600 := by omega
  have q400 : 400 ≤ Q + 600 := by omega
  have qB : QBp (Q + 600) := ⟨Nat.le_trans hQ.1 (Nat.le_add_right _ _), q6⟩
  have hS := HSIM_ok (Q := Q + 600) hPT hB hG q4
  have k5 : (0 : Int) ≤ (k : Int) ∧ (k : Int) ≤ 511 := by omega
  obtain ⟨S2, e, hF, c11, c1⟩ := op_30 (Q := Q + 600) (xs := xs) q6 hPT hZR hST hDR (by omega) hL hj
  refine ⟨S2, st_f h0 c1 c11 hF, fun K => ?_⟩
  rw [← la_chain_k 30 (by decide)]
  unfold la_chain
  rw [if_neg (by decide), if_neg (by decide), if_neg (by decide), if_neg (by decide), if_neg (by decide), if_neg (by decide), if_neg (by decide), if_neg (by decide), if_neg (by decide), if_neg (by decide), if_neg (by decide), if_neg (by decide), if_neg (by decide), if_neg (by decide), if_neg (by decide), if_neg (by decide), if_neg (by decide), if_neg (by decide), if_neg (by decide), if_neg (by decide), if_neg (by decide), if_neg (by decide), if_neg (by decide), if_neg (by decide), if_neg (by decide), if_neg (by decide), if_neg (by decide), if_neg (by decide), if_neg (by decide), if_neg (by decide), if_pos (by decide)]
  exact e K
theorem step_31 (hQ : QBp Q) (hQ2 : 40000000000 ≤ Q) (hL : L ≤ 3072) (hj : j + 6 ≤ L) (hk : k ≤ 511) (h : INV k S) : ∃ S2, INV (k + 1) S2 ∧ ∀ K : ev_St → Option (Int × ev_St), la_arm 31 (Q + 600) L xs (j : Int) K S = K S2 := by
  have h0 := h
  obtain ⟨D, ⟨hDR, hPA, hPT, hTR⟩, ⟨hLG, hB8, hRR, hRM⟩, ⟨hT1, hT2⟩, ⟨hST, hZR⟩, _, _⟩ := h
  have hG : SG S := SG_of_g hLG
  have hB : sp_BR S := BR_of_g hLG
  have hM : sp_MR S := hLG.2.1.2.2.2.2.1
  have q6 : 1000000 ≤ Q + 600 := by omega
  have q4 : 40000000000 ≤ Q + 600 := by omega
  have q400 : 400 ≤ Q + 600 := by omega
  have qB : QBp (Q + 600) := ⟨Nat.le_trans hQ.1 (Nat.le_add_right _ _), q6⟩
  have hS := HSIM_ok (Q := Q + 600) hPT hB hG q4
  have k5 : (0 : Int) ≤ (k : Int) ∧ (k : Int) ≤ 511 := by omega
  obtain ⟨S2, e, hF, c11, c1⟩ := op_31 (Q := Q + 600) (xs := xs) q6 hPT hZR hST hDR hL hj
  refine ⟨S2, st_f h0 c1 c11 hF, fun K => ?_⟩
  rw [← la_chain_k 31 (by decide)]
  unfold la_chain
  rw [if_neg (by decide), if_neg (by decide), if_neg (by decide), if_neg (by decide), if_neg (by decide), if_neg (by decide), if_neg (by decide), if_neg (by decide), if_neg (by decide), if_neg (by decide), if_neg (by decide), if_neg (by decide), if_neg (by decide), if_neg (by decide), if_neg (by decide), if_neg (by decide), if_neg (by decide), if_neg (by decide), if_neg (by decide), if_neg (by decide), if_neg (by decide), if_neg (by decide), if_neg (by decide), if_neg (by decide), if_neg (by decide), if_neg (by decide), if_neg (by decide), if_neg (by decide), if_neg (by decide), if_neg (by decide), if_neg (by decide), if_pos (by decide)]
  exact e K
theorem step_32 (hQ : QBp Q) (hQ2 : 40000000000 ≤ Q) (hL : L ≤ 3072) (hj : j + 6 ≤ L) (hk : k ≤ 511) (h : INV k S) : ∃ S2, INV (k + 1) S2 ∧ ∀ K : ev_St → Option (Int × ev_St), la_arm 32 (Q + 600) L xs (j : Int) K S = K S2 := by
  have h0 := h
  obtain ⟨D, ⟨hDR, hPA, hPT, hTR⟩, ⟨hLG, hB8, hRR, hRM⟩, ⟨hT1, hT2⟩, ⟨hST, hZR⟩, _, _⟩ := h
  have hG : SG S := SG_of_g hLG
  have hB : sp_BR S := BR_of_g hLG
  have hM : sp_MR S := hLG.2.1.2.2.2.2.1
  have q6 : 1000000 ≤ Q + 600 := by omega
  have q4 : 40000000000 ≤ Q + 600 := by omega
  have q400 : 400 ≤ Q + 600 := by omega
  have qB : QBp (Q + 600) := ⟨Nat.le_trans hQ.1 (Nat.le_add_right _ _), q6⟩
  have hS := HSIM_ok (Q := Q + 600) hPT hB hG q4
  have k5 : (0 : Int) ≤ (k : Int) ∧ (k : Int) ≤ 511 := by omega
  obtain ⟨S2, e, hF, c11, c1⟩ := op_32 (Q := Q + 600) (xs := xs) q6 hPT hZR hST hDR hL hj
  refine ⟨S2, st_f h0 c1 c11 hF, fun K => ?_⟩
  rw [← la_chain_k 32 (by decide)]
  unfold la_chain
  rw [if_neg (by decide), if_neg (by decide), if_neg (by decide), if_neg (by decide), if_neg (by decide), if_neg (by decide), if_neg (by decide), if_neg (by decide), if_neg (by decide), if_neg (by decide), if_neg (by decide), if_neg (by decide), if_neg (by decide), if_neg (by decide), if_neg (by decide), if_neg (by decide), if_neg (by decide), if_neg (by decide), if_neg (by decide), if_neg (by decide), if_neg (by decide), if_neg (by decide), if_neg (by decide), if_neg (by decide), if_neg (by decide), if_neg (by decide), if_neg (by decide), if_neg (by decide), if_neg (by decide), if_neg (by decide), if_neg (by decide), if_neg (by decide), if_pos (by decide)]
  exact e K
theorem step_x {o : Nat} (h0 : INV k S) : ∃ S2, INV (k + 1) S2 ∧ ∀ K : ev_St → Option (Int × ev_St), la_arm (o + 33) Q L xs (j : Int) K S = K S2 := ⟨S, st_c h0 ⟨fun _ _ _ => rfl, fun _ _ _ => rfl, rfl, rfl, rfl, Nat.le_succ _, Nat.le_add_right _ _⟩, fun K => rfl⟩
theorem step (hQ : QBp Q) (hQ2 : 40000000000 ≤ Q) (hL : L ≤ 3072) (hj : j + 6 ≤ L) (hk : k ≤ 511) (h : INV k S) : ∀ o : Nat, ∃ S2, INV (k + 1) S2 ∧ ∀ K : ev_St → Option (Int × ev_St), la_arm o (Q + 600) L xs (j : Int) K S = K S2
  | 0 => step_0 hQ hQ2 hL hj hk h
  | 1 => step_1 hQ hQ2 hL hj hk h
  | 2 => step_2 hQ hQ2 hL hj hk h
  | 3 => step_3 hQ hQ2 hL hj hk h
  | 4 => step_4 hQ hQ2 hL hj hk h
  | 5 => step_5 hQ hQ2 hL hj hk h
  | 6 => step_6 hQ hQ2 hL hj hk h
  | 7 => step_7 hQ hQ2 hL hj hk h
  | 8 => step_8 hQ hQ2 hL hj hk h
  | 9 => step_9 hQ hQ2 hL hj hk h
  | 10 => step_10 hQ hQ2 hL hj hk h
  | 11 => step_11 hQ hQ2 hL hj hk h
  | 12 => step_12 hQ hQ2 hL hj hk h
  | 13 => step_13 hQ hQ2 hL hj hk h
  | 14 => step_14 hQ hQ2 hL hj hk h
  | 15 => step_15 hQ hQ2 hL hj hk h
  | 16 => step_16 hQ hQ2 hL hj hk h
  | 17 => step_17 hQ hQ2 hL hj hk h
  | 18 => step_18 hQ hQ2 hL hj hk h
  | 19 => step_19 hQ hQ2 hL hj hk h
  | 20 => step_20 hQ hQ2 hL hj hk h
  | 21 => step_21 hQ hQ2 hL hj hk h
  | 22 => step_22 hQ hQ2 hL hj hk h
  | 23 => step_23 hQ hQ2 hL hj hk h
  | 24 => step_24 hQ hQ2 hL hj hk h
  | 25 => step_25 hQ hQ2 hL hj hk h
  | 26 => step_26 hQ hQ2 hL hj hk h
  | 27 => step_27 hQ hQ2 hL hj hk h
  | 28 => step_28 hQ hQ2 hL hj hk h
  | 29 => step_29 hQ hQ2 hL hj hk h
  | 30 => step_30 hQ hQ2 hL hj hk h
  | 31 => step_31 hQ hQ2 hL hj hk h
  | 32 => step_32 hQ hQ2 hL hj hk h
  | _ + 33 => step_x h
end OSV
