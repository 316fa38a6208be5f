/-! THE READER: a repeat, the class's side -/
section RREP
variable {Q k n m w d N M D lv : Nat} {φ ψ own inn G R ws y : Nat → Nat} {P q : Nat → Int} {S T S0 T0 S2 T2 T1 U : ev_St}
theorem sp_93 {l : Nat} (hk : ev_isOb k 5 = true) (hkr : 232 ≤ k) (h9 : S.2.2.1 3 9 = k + 1) (hn : S.1 k 11 = (n : Int)) (hh : n + 2 ≤ 400) : ∃ S', jm_93 Q (l : Int) S = some (((n + 1 : Nat) : Int), S') ∧ S'.1 k 11 = (n : Int) + 2 ∧ (S'.1 (k + 1) n = 15 ∧ S'.1 (k + 4) n = (l : Int) ∧ S'.1 (k + 5) n = -1) ∧ (S'.1 (k + 1) (n + 1) = 19 ∧ S'.1 (k + 4) (n + 1) = (n : Int) ∧ S'.1 (k + 5) (n + 1) = -1) ∧ (∀ x g, ¬ (x = k ∧ g = 11) → ¬ (k + 1 ≤ x ∧ x ≤ k + 7 ∧ n ≤ g ∧ g ≤ n + 1) → S'.1 x g = S.1 x g) ∧ S'.2 = S.2 := by
  obtain ⟨l1, l2, l3, l4, l5, l6, l7, l8, l9⟩ := al_Pt hk
  obtain ⟨S1, a1, ⟨a2, a3, a4, a5, a6⟩, a7, a8⟩ := sp_58 (Q := Q) (a := 15) (b := 0) (c := 0) hk hn (by omega)
  obtain ⟨S2, b1, ⟨b2, b3, b4, b5, b6⟩, b7, b8⟩ := sp_58 (Q := Q) (S := S1) (n := n + 1) (a := 19) (b := 0) (c := 0) hk (by rw [a2]; omega) (by omega)
  have k9 : S2.2.2.1 3 9 = k + 1 := by rw [b8, a8, h9]
  refine ⟨ev_pI (ev_pI S2 (k + 4) n (l : Int)) (k + 4) (n + 1) (n : Int), ?_, ?_, ⟨?_, ?_, ?_⟩, ⟨?_, ?_, ?_⟩, fun x g h1 h2 => ?_, ?_⟩
  · unfold jm_93
    rw [h9, sp_b, sp_if (by omega), show k + 1 - 1 = k from rfl, a1, sp_bd, show S1.2.2.1 3 9 = k + 1 from by rw [a8, h9], sp_b, sp_if (by omega), show k + 1 - 1 = k from rfl, b1, sp_bd, k9, sp_b, sp_if (by omega), show k + 1 - 1 = k from rfl, sp_59, if_pos (by rw [b2]; omega), sp_bd, if_neg (by decide), k9, sp_b, sp_if (by omega), show k + 1 - 1 = k from rfl, sp_59, if_pos (by rw [b2]; omega), sp_bd, if_neg (by decide), k9, sp_b, sp_if (by omega), show k + 1 - 1 = k from rfl, sp_if (by rw [l4]; omega), Int.toNat_natCast, sp_b, show (ev_pI S2 (k + 4) n (l : Int)).2.2.1 3 9 = k + 1 from k9, sp_b, sp_if (by omega), show k + 1 - 1 = k from rfl, sp_if (by rw [l4]; omega), Int.toNat_natCast, sp_b]
  · rw [rd_nk (by omega), rd_nk (by omega), b2]
    omega
  · rw [rd_nk (by omega), rd_nk (by omega), b7 _ _ (by omega) (by omega), a3]
  · rw [rd_nf (by omega), rd_eq]
  · rw [rd_nk (by omega), rd_nk (by omega), b7 _ _ (by omega) (by omega)]
    exact a6 5 (by omega) (by omega)
  · rw [rd_nk (by omega), rd_nk (by omega), b3]
  · rw [rd_eq]
  · rw [rd_nk (by omega), rd_nk (by omega)]
    exact b6 5 (by omega) (by omega)
  · rw [sp_pI1, if_neg (by omega), sp_pI1, if_neg (by omega), b7 x g h1 (by omega), a7 x g h1 (by omega)]
  · show S2.2 = _
    rw [b8, a8]
/-- what the last item is put in place of: M the first new node, j the new item -/
def RPc (k M D j : Nat) (r : Int) (S S' : ev_St) : Prop := (S'.1 (17 + D) 7 = (j : Int) ∧ S'.1 (ckc k D (S.1 (17 + D) 8)) (ckp (S.1 (17 + D) 8)) = (j : Int)) ∧ (S'.1 3 8 = r ∧ S'.1 3 13 = 0 ∧ S'.1 3 14 = S.1 3 14 + 1) ∧ (∀ x g, ¬ (x = 3 ∧ (g = 8 ∨ g = 13 ∨ g = 14)) → ¬ (x = k ∧ g = 11) → ¬ (k + 1 ≤ x ∧ x ≤ k + 7 ∧ M ≤ g ∧ g ≤ j) → ¬ (x = 17 + D ∧ g = 7) → ¬ (x = ckc k D (S.1 (17 + D) 8) ∧ g = ckp (S.1 (17 + D) 8)) → S'.1 x g = S.1 x g) ∧ S'.2 = S.2
/-- the end of the class's repeat: the item j is put in place of the last one -/
theorem sp_92e {j : Nat} {Z : ev_St} (hk : ev_isOb k 5 = true) (hkr : 232 ≤ k) (h9 : Z.2.2.1 3 9 = k + 1) (hj : (j : Int) < Z.1 k 11 ∧ Z.1 k 11 ≤ 400) (hb : -1 ≤ Z.1 (17 + D) 8 ∧ Z.1 (17 + D) 8 < j) (hD : D < 152) : ∃ S', (ev_b (Z.2.2.1 3 9) fun r51 => ev_if (r51 ≠ 0) (ev_bd (jm_59 Q ((r51 - 1)) (j : Int) Z) fun x54 s53 => if x54 ≠ 0 then (ev_b (s53.2.2.1 3 9) fun r56 => ev_b (s53.1 (17 + D) 8) fun x57 => ev_if (r56 ≠ 0) (ev_bd (jm_59 Q ((r56 - 1)) x57 s53) fun x60 s59 => if x60 = 0 then (ev_b (ev_pI s59 (17 + D) 6 (j : Int)) fun s62 => ev_b (ev_pI s62 (17 + D) 7 (j : Int)) fun s63 => some ((1 : Int), s63)) else (ev_b (s59.2.2.1 3 9) fun r64 => ev_if (r64 ≠ 0) (ev_b (s59.1 (17 + D) 8) fun x66 => ev_if ((0 : Int) ≤ x66 ∧ x66 < (ev_aln (((r64 - 1) + 5)) : Int)) (ev_b (ev_pI s59 (((r64 - 1) + 5)) (Int.toNat x66) (j : Int)) fun s67 => ev_b (ev_pI s67 (17 + D) 7 (j : Int)) fun s68 => some (1, s68)))))) else (some (0, s53)))) = some (1, S') ∧ (S'.1 (17 + D) 7 = (j : Int) ∧ S'.1 (ckc k D (Z.1 (17 + D) 8)) (ckp (Z.1 (17 + D) 8)) = (j : Int)) ∧ (∀ x g, ¬ (x = 17 + D ∧ g = 7) → ¬ (x = ckc k D (Z.1 (17 + D) 8) ∧ g = ckp (Z.1 (17 + D) 8)) → S'.1 x g = Z.1 x g) ∧ S'.2 = Z.2 := by
  obtain ⟨l1, l2, l3, l4, l5, l6, l7, l8, l9⟩ := al_Pt hk
  refine ⟨ev_pI (ev_pI Z (ckc k D (Z.1 (17 + D) 8)) (ckp (Z.1 (17 + D) 8)) (j : Int)) (17 + D) 7 (j : Int), ?_, ⟨rd_eq, ?_⟩, fun x g h1 h2 => ?_, rfl⟩
  · rw [h9, sp_b, sp_if (by omega), show k + 1 - 1 = k from rfl, sp_59, if_pos (by omega), sp_bd, if_pos (by decide), h9, sp_b, sp_b, sp_if (by omega), show k + 1 - 1 = k from rfl, sp_59]
    rcases ck_i k D (Z.1 (17 + D) 8) with ⟨h1, h2, h3⟩ | ⟨h1, h2, h3⟩
    · rw [h2, h3, if_neg (by omega), sp_bd, if_pos rfl, sp_b, sp_b]
    · rw [h2, h3, if_pos (by omega), sp_bd, if_neg (by decide), h9, sp_b, sp_if (by omega), sp_b, show k + 1 - 1 = k from rfl, sp_if (by rw [l5]; omega), sp_b, sp_b]
  · rcases ck_i k D (Z.1 (17 + D) 8) with ⟨h1, h2, h3⟩ | ⟨h1, h2, h3⟩
    · rw [h2, h3, rd_nf (by omega), rd_eq]
    · rw [h2, h3, rd_nk (by omega), rd_eq]
  · rw [sp_pI1, if_neg h1, sp_pI1, if_neg h2]
/-- the class's repeat, as far as the style of it is read -/
theorem sp_92h {lo hi r s : Int} (ht : RIt lv ws S T) (h13 : S.1 3 13 = 1) (hd : S.1 3 10 = (D : Int)) (hD : D < 152) (hc : 0 ≤ S.1 3 14 ∧ S.1 3 14 < 150) (hr : S.1 3 8 = r ∧ 0 ≤ r ∧ r ≤ 200) (hs : sp_at S (ws lv) r = s) (hk : ev_isOb k 5 = true) (hkr : 232 ≤ k) (h9 : S.2.2.1 3 9 = k + 1) (hn : S.1 k 11 = (M : Int)) (hh : M + 3 ≤ 400) (hl : ∃ a : Nat, S.1 (17 + D) 7 = (a : Int) ∧ a < M) (hb : -1 ≤ S.1 (17 + D) 8 ∧ S.1 (17 + D) 8 < M) : ∃ j S', jm_92 Q lo hi S = some (1, S') ∧ RPc k M D j (r + rsl s) S S' ∧ (S'.1 (k + 1) M = (if s = 63 then 14 else 13) ∧ S'.1 (k + 2) M = lo ∧ S'.1 (k + 3) M = hi ∧ S'.1 (k + 4) M = S.1 (17 + D) 7 ∧ S'.1 (k + 5) M = -1) ∧ ((s ≠ 43 ∧ j = M ∧ S'.1 k 11 = (M : Int) + 1) ∨ (s = 43 ∧ j = M + 2 ∧ S'.1 k 11 = (M : Int) + 3 ∧ (S'.1 (k + 1) (M + 1) = 15 ∧ S'.1 (k + 4) (M + 1) = (M : Int) ∧ S'.1 (k + 5) (M + 1) = -1) ∧ (S'.1 (k + 1) (M + 2) = 19 ∧ S'.1 (k + 4) (M + 2) = ((M + 1 : Nat) : Int) ∧ S'.1 (k + 5) (M + 2) = -1))) := by
  obtain ⟨l1, l2, l3, l4, l5, l6, l7, l8, l9⟩ := al_Pt hk
  obtain ⟨r1, r2, r3, r4, r5, r6⟩ := RT_ofL ht
  unfold isTx at r2
  have dn : 17 + 1 * ((D : Int)).toNat = 17 + D := by omega
  obtain ⟨al, ha1, ha2⟩ := hl
  -- up to the style
  obtain ⟨V, hV⟩ : ∃ V, V = ev_pI (ev_pI S 3 14 (S.1 3 14 + 1)) 3 13 0 := ⟨_, rfl⟩
  have v1 : ∀ x g, ¬ (x = 3 ∧ (g = 13 ∨ g = 14)) → V.1 x g = S.1 x g := fun x g h => by
    rw [hV, sp_pI1, if_neg (by omega), sp_pI1, if_neg (by omega)]
  have v2 : V.2 = S.2 := by rw [hV]; rfl
  have v13 : V.1 3 13 = 0 := by rw [hV, rd_eq]
  have v14 : V.1 3 14 = S.1 3 14 + 1 := by rw [hV, rd_nf (by omega), rd_eq]
  have pk : jm_84 Q 0 V = some (s, V) := by
    have := pk_S (Q := Q) (a := 0) (U := V) (x := r) ht (by rw [v2]) (fun g => v1 _ _ (by omega)) (fun g => v1 _ _ (by omega)) (by rw [v1 _ _ (by omega)]; exact hr.1) (by omega)
    rw [Int.add_zero, hs] at this
    exact this
  obtain ⟨U, hU⟩ : ∃ U, U = if s = 63 ∨ s = 43 then ev_pI V 3 8 (r + 1) else V := ⟨_, rfl⟩
  have u1 : ∀ x g, ¬ (x = 3 ∧ (g = 8 ∨ g = 13 ∨ g = 14)) → U.1 x g = S.1 x g := fun x g h => by
    rw [hU]
    split
    · rw [sp_pI1, if_neg (by omega), v1 _ _ (by omega)]
    · rw [v1 _ _ (by omega)]
  have u2 : U.2 = S.2 := by
    rw [hU]
    split
    · exact v2
    · exact v2
  have u8 : U.1 3 8 = r + rsl s := by
    rw [hU]
    unfold rsl
    by_cases e : s = 63 ∨ s = 43
    · rw [if_pos e, if_pos e, rd_eq]
    · rw [if_neg e, if_neg e, v1 _ _ (by omega), hr.1, Int.add_zero]
  have u13 : U.1 3 13 = 0 := by
    rw [hU]
    split
    · rw [rd_nf (by omega), v13]
    · exact v13
  have u14 : U.1 3 14 = S.1 3 14 + 1 := by
    rw [hU]
    split
    · rw [rd_nf (by omega), v14]
    · exact v14
  have k9 : U.2.2.1 3 9 = k + 1 := by rw [u2, h9]
  obtain ⟨kd, hkd⟩ : ∃ kd : Int, kd = if s = 63 then 14 else 13 := ⟨_, rfl⟩
  obtain ⟨W, a1, ⟨a2, a3, a4, a5, a6⟩, a7, a8⟩ := sp_58 (Q := Q) (S := U) (a := kd) (b := lo) (c := hi) hk (by rw [u1 _ _ (by omega), hn]) (show M < 400 by omega)
  have w7 : W.1 (17 + D) 7 = (al : Int) := by rw [a7 _ _ (by omega) (by omega), u1 _ _ (by omega), ha1]
  have w9 : W.2.2.1 3 9 = k + 1 := by rw [a8, k9]
  have w8 : W.1 (17 + D) 8 = S.1 (17 + D) 8 := by rw [a7 _ _ (by omega) (by omega), u1 _ _ (by omega)]
  have w11 : W.1 k 11 = (M : Int) + 1 := a2
  obtain ⟨Z1, hZ1⟩ : ∃ Z, Z = ev_pI W (k + 4) M (al : Int) := ⟨_, rfl⟩
  have z1 : ∀ x g, ¬ (x = k + 4 ∧ g = M) → Z1.1 x g = W.1 x g := fun x g h => by rw [hZ1, sp_pI1, if_neg h]
  have z2 : Z1.2 = S.2 := by rw [hZ1, ← u2, ← a8]; rfl
  have z4 : Z1.1 (k + 4) M = (al : Int) := by rw [hZ1, rd_eq]
  have zW : ∀ x g, ¬ (x = 3 ∧ (g = 8 ∨ g = 13 ∨ g = 14)) → ¬ (x = k ∧ g = 11) → ¬ (k + 1 ≤ x ∧ x ≤ k + 7 ∧ g = M) → Z1.1 x g = S.1 x g := fun x g h1 h2 h3 => by
    rw [z1 x g (by omega), a7 x g h2 h3, u1 x g h1]
  have k5 : W.1 (k + 5) M = -1 := a6 5 (by omega) (by omega)
  by_cases h43 : s = 43
  · have hkd' : kd = 13 := by rw [hkd, if_neg (by omega)]
    have n63 : s ≠ 63 := by omega
    have hU' : U = ev_pI V 3 8 (r + 1) := by rw [hU, if_pos (Or.inr h43)]
    obtain ⟨Z2, e1, e2, ⟨e3, e4, e5⟩, ⟨e6, e7, e8⟩, e9, e10⟩ := sp_93 (Q := Q) (S := Z1) (l := M) (n := M + 1) hk hkr (by rw [z2, h9]) (by rw [z1 _ _ (by omega), w11]; omega) (by omega)
    have zz : ∀ x g, ¬ (x = 3 ∧ (g = 8 ∨ g = 13 ∨ g = 14)) → ¬ (x = k ∧ g = 11) → ¬ (k + 1 ≤ x ∧ x ≤ k + 7 ∧ M ≤ g ∧ g ≤ M + 2) → Z2.1 x g = S.1 x g := fun x g h1 h2 h3 => by
      rw [e9 x g h2 (by omega), zW x g h1 h2 (by omega)]
    have z8 : Z2.1 (17 + D) 8 = S.1 (17 + D) 8 := zz _ _ (by omega) (by omega) (by omega)
    obtain ⟨S', f1, ⟨f2, f3⟩, f4, f5⟩ := sp_92e (Q := Q) (j := M + 2) (Z := Z2) (D := D) hk hkr (by rw [e10, z2, h9]) (by rw [e2]; omega) (by rw [z8]; omega) hD
    have ck := ck_i k D (S.1 (17 + D) 8)
    rw [z8] at f3 f4
    have fm : ∀ x g, k ≤ x → x ≤ k + 7 → (x = k ∧ g = 11 ∨ (x ≠ k ∧ M ≤ g)) → S'.1 x g = Z2.1 x g := fun x g h1 h2 h3 => f4 x g (by omega) (by omega)
    refine ⟨M + 2, S', ?_, ⟨⟨f2, f3⟩, ⟨?_, ?_, ?_⟩, fun x g h1 h2 h3 h4 h5 => ?_, by rw [f5, e10, z2]⟩, ⟨?_, ?_, ?_, ?_, ?_⟩, Or.inr ⟨h43, rfl, ?_, ⟨?_, ?_, ?_⟩, ?_, ?_, ?_⟩⟩
    · unfold jm_92
      rw [sp_b, h13, if_neg (by decide), sp_b, hd, if_neg (by omega), sp_b, if_neg (by omega), sp_87 (by omega), if_neg (by omega), sp_bd, if_pos (by decide), sp_b, ← hV, pk, sp_bd, sp_jn]
      try dsimp only
      rw [sp_jn]
      try dsimp only
      rw [if_neg n63, if_neg (fun z => z h43)]
      rw [sp_b, v1 3 8 (by omega), hr.1, sp_ck (by omega), sp_b, ← hU', sp_b]
      rw [u1 3 10 (by omega), hd, sp_if (by omega), sp_b, dn, k9, sp_b, sp_jn]
      try dsimp only
      rw [if_pos n63]
      try dsimp only
      rw [sp_if (by omega), show k + 1 - 1 = k from rfl, ← hkd', a1, sp_bd, w9, sp_b, sp_if (by omega), show k + 1 - 1 = k from rfl, sp_59, if_pos (by rw [w11]; omega), sp_bd, if_pos (by decide), w9, sp_b, sp_if (by omega), w7, sp_b, show k + 1 - 1 = k from rfl, sp_if (by rw [l4]; omega), Int.toNat_natCast, sp_b, ← hZ1, sp_jn]
      try dsimp only
      rw [if_neg (fun z => z h43), show (M : Int) = ((M : Nat) : Int) from rfl, e1, sp_bd]
      exact f1
    · rw [f4 _ _ (by omega) (by omega), e9 _ _ (by omega) (by omega), z1 _ _ (by omega), a7 _ _ (by omega) (by omega), u8]
    · rw [f4 _ _ (by omega) (by omega), e9 _ _ (by omega) (by omega), z1 _ _ (by omega), a7 _ _ (by omega) (by omega), u13]
    · rw [f4 _ _ (by omega) (by omega), e9 _ _ (by omega) (by omega), z1 _ _ (by omega), a7 _ _ (by omega) (by omega), u14]
    · rw [f4 x g h4 h5, zz x g h1 h2 h3]
    · rw [fm _ _ (by omega) (by omega) (by omega), e9 _ _ (by omega) (by omega), z1 _ _ (by omega), a3, hkd]
    · rw [fm _ _ (by omega) (by omega) (by omega), e9 _ _ (by omega) (by omega), z1 _ _ (by omega), a4]
    · rw [fm _ _ (by omega) (by omega) (by omega), e9 _ _ (by omega) (by omega), z1 _ _ (by omega), a5]
    · rw [fm _ _ (by omega) (by omega) (by omega), e9 _ _ (by omega) (by omega), z4, ha1]
    · rw [fm _ _ (by omega) (by omega) (by omega), e9 _ _ (by omega) (by omega), z1 _ _ (by omega), k5]
    · rw [fm _ _ (by omega) (by omega) (by omega), e2]; omega
    · rw [fm _ _ (by omega) (by omega) (by omega), e3]
    · rw [fm _ _ (by omega) (by omega) (by omega), e4]
    · rw [fm _ _ (by omega) (by omega) (by omega), e5]
    · rw [fm _ _ (by omega) (by omega) (by omega)]; exact e6
    · rw [fm _ _ (by omega) (by omega) (by omega)]; exact e7
    · rw [fm _ _ (by omega) (by omega) (by omega)]; exact e8
  · have z8 : Z1.1 (17 + D) 8 = S.1 (17 + D) 8 := zW _ _ (by omega) (by omega) (by omega)
    obtain ⟨S', f1, ⟨f2, f3⟩, f4, f5⟩ := sp_92e (Q := Q) (j := M) (Z := Z1) (D := D) hk hkr (by rw [z2, h9]) (by rw [z1 _ _ (by omega), w11]; omega) (by rw [z8]; omega) hD
    have ck := ck_i k D (S.1 (17 + D) 8)
    rw [z8] at f3 f4
    have fm : ∀ x g, k ≤ x → x ≤ k + 7 → (x = k ∧ g = 11 ∨ (x ≠ k ∧ M ≤ g)) → S'.1 x g = Z1.1 x g := fun x g h1 h2 h3 => f4 x g (by omega) (by omega)
    refine ⟨M, S', ?_, ⟨⟨f2, f3⟩, ⟨?_, ?_, ?_⟩, fun x g h1 h2 h3 h4 h5 => ?_, by rw [f5, z2]⟩, ⟨?_, ?_, ?_, ?_, ?_⟩, Or.inl ⟨h43, rfl, ?_⟩⟩
    · by_cases h63 : s = 63
      · have hkd' : kd = 14 := by rw [hkd, if_pos h63]
        have hU' : U = ev_pI V 3 8 (r + 1) := by rw [hU, if_pos (Or.inl h63)]
        unfold jm_92
        rw [sp_b, h13, if_neg (by decide), sp_b, hd, if_neg (by omega), sp_b, if_neg (by omega), sp_87 (by omega), if_neg (by omega), sp_bd, if_pos (by decide), sp_b, ← hV, pk, sp_bd, sp_jn]
        try dsimp only
        rw [sp_jn]
        try dsimp only
        rw [if_pos h63]
        rw [sp_b, v1 3 8 (by omega), hr.1, sp_ck (by omega), sp_b, ← hU', sp_b]
        rw [u1 3 10 (by omega), hd, sp_if (by omega), sp_b, dn, k9, sp_b, sp_jn]
        try dsimp only
        rw [if_neg (fun z => z h63)]
        try dsimp only
        rw [sp_if (by omega), show k + 1 - 1 = k from rfl, ← hkd', a1, sp_bd, w9, sp_b, sp_if (by omega), show k + 1 - 1 = k from rfl, sp_59, if_pos (by rw [w11]; omega), sp_bd, if_pos (by decide), w9, sp_b, sp_if (by omega), w7, sp_b, show k + 1 - 1 = k from rfl, sp_if (by rw [l4]; omega), Int.toNat_natCast, sp_b, ← hZ1, sp_jn]
        try dsimp only
        rw [if_pos h43]
        exact f1
      · have hkd' : kd = 13 := by rw [hkd, if_neg h63]
        have hU' : U = V := by rw [hU, if_neg (by omega)]
        unfold jm_92
        rw [sp_b, h13, if_neg (by decide), sp_b, hd, if_neg (by omega), sp_b, if_neg (by omega), sp_87 (by omega), if_neg (by omega), sp_bd, if_pos (by decide), sp_b, ← hV, pk, sp_bd, sp_jn]
        try dsimp only
        rw [sp_jn]
        try dsimp only
        rw [if_neg h63, if_pos h43]
        rw [← hU', sp_b]
        rw [u1 3 10 (by omega), hd, sp_if (by omega), sp_b, dn, k9, sp_b, sp_jn]
        try dsimp only
        rw [if_pos h63]
        try dsimp only
        rw [sp_if (by omega), show k + 1 - 1 = k from rfl, ← hkd', a1, sp_bd, w9, sp_b, sp_if (by omega), show k + 1 - 1 = k from rfl, sp_59, if_pos (by rw [w11]; omega), sp_bd, if_pos (by decide), w9, sp_b, sp_if (by omega), w7, sp_b, show k + 1 - 1 = k from rfl, sp_if (by rw [l4]; omega), Int.toNat_natCast, sp_b, ← hZ1, sp_jn]
        try dsimp only
        rw [if_pos h43]
        exact f1
    · rw [f4 _ _ (by omega) (by omega), z1 _ _ (by omega), a7 _ _ (by omega) (by omega), u8]
    · rw [f4 _ _ (by omega) (by omega), z1 _ _ (by omega), a7 _ _ (by omega) (by omega), u13]
    · rw [f4 _ _ (by omega) (by omega), z1 _ _ (by omega), a7 _ _ (by omega) (by omega), u14]
    · rw [f4 x g h4 h5, zW x g h1 h2 (by omega)]
    · rw [fm _ _ (by omega) (by omega) (by omega), z1 _ _ (by omega), a3, hkd]
    · rw [fm _ _ (by omega) (by omega) (by omega), z1 _ _ (by omega), a4]
    · rw [fm _ _ (by omega) (by omega) (by omega), z1 _ _ (by omega), a5]
    · rw [fm _ _ (by omega) (by omega) (by omega), z4, ha1]
    · rw [fm _ _ (by omega) (by omega) (by omega), z1 _ _ (by omega), k5]
    · rw [fm _ _ (by omega) (by omega) (by omega), z1 _ _ (by omega), w11]
end RREP
