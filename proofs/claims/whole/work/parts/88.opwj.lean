/-! FACTS: the class learns a node -/
section FACTC5
variable {Q k b e N : Nat} {X : Nat → Int} {f : Nat → Nat} {Mb : Nat → Prop} {W : Nat → FV} {S U V : ev_St}
abbrev noP : Int → Prop := fun _ => False
/-- all signs -/
def allP : Int → Prop := fun c => cs (-4294966272) 9223372036854775807 c = 1
theorem L31 (hr : U.2.2.1 221 9 = k + 1) (hk : 232 ≤ k) (hb : b < 400) (l1 : ev_aln (k + 1) = 400) : ∃ V, FRn b U V ∧ VAL b V zFV ∧ jm_31 Q (b : Int) U = (if U.1 (k + 1) b ≠ 0 then (ev_bd (jm_61 Q (U.1 (k + 1) b) V) fun x12 s11 => if x12 = 0 then (ev_jn (fun (s17 : ev_St) => ev_bd (jm_36 Q ((224 + 1)) (b : Int) ((-4294966272)) ((9223372036854775807)) s17) fun _ s18 => some ((), s18)) fun K164 => if U.1 (k + 1) b = 7 then (K164 s11) else (if U.1 (k + 1) b ≠ 9 then (ev_bd (jm_62 Q (U.1 (k + 1) b) s11) fun x22 s21 => if x22 = 0 then (if U.1 (k + 1) b ≠ 15 then (ev_bd (jm_64 Q (U.1 (k + 1) b) s21) fun x26 s25 => if x26 = 0 then (some ((), s25)) else (ev_bd (jm_34 Q (b : Int) s25) fun _ s28 => some ((), s28))) else (ev_bd (jm_33 Q (b : Int) s21) fun _ s29 => some ((), s29))) else (ev_bd (jm_32 Q (b : Int) s21) fun _ s30 => some ((), s30))) else (K164 s11))) else (ev_if ((0 : Int) ≤ (b : Int) ∧ (b : Int) < (ev_aln 223 : Int)) (ev_b (ev_pI s11 223 (Int.toNat (b : Int)) 1) fun s31 => some ((), s31)))) else (ev_if ((0 : Int) ≤ (b : Int) ∧ (b : Int) < (ev_aln 222 : Int)) (ev_b (ev_pI V 222 (Int.toNat (b : Int)) 1) fun s32 => ev_if ((0 : Int) ≤ (b : Int) ∧ (b : Int) < (ev_aln 223 : Int)) (ev_b (ev_pI s32 223 (Int.toNat (b : Int)) 1) fun s33 => ev_b (s33.2.2.1 221 9) fun r34 => ev_if (r34 ≠ 0) (ev_if ((0 : Int) ≤ (b : Int) ∧ (b : Int) < (ev_aln (((r34 - 1) + 8)) : Int)) (ev_b (s33.2.1 (((r34 - 1) + 8)) (Int.toNat (b : Int))) fun y36 => ev_b (s33.2.2.1 221 9) fun r37 => ev_if (r37 ≠ 0) (ev_if ((0 : Int) ≤ (b : Int) ∧ (b : Int) < (ev_aln (((r37 - 1) + 9)) : Int)) (ev_b (s33.2.1 (((r37 - 1) + 9)) (Int.toNat (b : Int))) fun y39 => ev_bd (jm_36 Q ((224 + 1)) (b : Int) y36 y39 s33) fun _ s40 => ev_b (s40.2.2.1 221 9) fun r41 => ev_if (r41 ≠ 0) (ev_if ((0 : Int) ≤ (b : Int) ∧ (b : Int) < (ev_aln (((r41 - 1) + 8)) : Int)) (ev_b (s40.2.1 (((r41 - 1) + 8)) (Int.toNat (b : Int))) fun y43 => ev_b (s40.2.2.1 221 9) fun r44 => ev_if (r44 ≠ 0) (ev_if ((0 : Int) ≤ (b : Int) ∧ (b : Int) < (ev_aln (((r44 - 1) + 9)) : Int)) (ev_b (s40.2.1 (((r44 - 1) + 9)) (Int.toNat (b : Int))) fun y46 => ev_bd (jm_36 Q ((225 + 1)) (b : Int) y43 y46 s40) fun _ s47 => some ((), s47))))))))))))) := by
  obtain ⟨V, a1, a2, a3⟩ := jm31_0 (Q := Q) (S := U) hb
  refine ⟨V, a2, a3, ?_⟩
  unfold jm_31
  rw [a1]
  try dsimp only
  rw [sp_b, a2.2.1, hr, sp_if (by omega), show k + 1 - 1 = k from rfl, sp_if (by rw [l1]; omega), sp_b, Int.toNat_natCast, a2.1 _ _ (by omega)]
theorem L31_0 (hr : U.2.2.1 221 9 = k + 1) (hk : 232 ≤ k) (hb : b < 400) (hal : ev_aln (k + 1) = 400 ∧ ev_aln (k + 8) = 400 ∧ ev_aln (k + 9) = 400) (h1 : U.1 (k + 1) b = 0) : ∃ V, jm_31 Q (b : Int) U = some ((), V) ∧ FRn b U V ∧ VAL b V (1, 1, fun c => cs (U.2.1 (k + 8) b) (U.2.1 (k + 9) b) c = 1, fun c => cs (U.2.1 (k + 8) b) (U.2.1 (k + 9) b) c = 1, noP, noP) := by
  obtain ⟨l1, l8, l9⟩ := hal
  obtain ⟨l22, l23, _⟩ := al_G
  obtain ⟨V, a1, a2, a3⟩ := L31 (Q := Q) hr hk hb l1
  have V' := a1.2.2
  obtain ⟨V1, hV1⟩ : ∃ V1, V1 = ev_pI (ev_pI V 222 b 1) 223 b 1 := ⟨_, rfl⟩
  have g1 : FRn b U V1 := by
    rw [hV1]
    exact FRn_t a1 (FRn_t (FRn_p (Or.inl rfl)) (FRn_p (Or.inr rfl)))
  obtain ⟨V2, hV2⟩ : ∃ V2, V2 = put2 V1 224 b (U.2.1 (k + 8) b) (U.2.1 (k + 9) b) := ⟨_, rfl⟩
  have g2 : FRn b U V2 := by
    rw [hV2]
    exact FRn_t g1 (FRn_of (FRc_p (by omega)))
  obtain ⟨V3, hV3⟩ : ∃ V3, V3 = put2 V2 225 b (U.2.1 (k + 8) b) (U.2.1 (k + 9) b) := ⟨_, rfl⟩
  have g3 : FRn b U V3 := by
    rw [hV3]
    exact FRn_t g2 (FRn_of (FRc_p (by omega)))
  refine ⟨V3, ?_, g3, ?_, ?_, fun c => ?_⟩
  · rw [a3, if_neg (fun z => z h1), sp_if (by rw [l22]; omega), sp_b, sp_if (by rw [l23]; omega), sp_b, Int.toNat_natCast, ← hV1, sp_b, g1.2.1, hr, sp_if (by omega), show k + 1 - 1 = k from rfl, sp_if (by rw [l8]; omega), sp_b, sp_b, sp_if (by omega), show k + 1 - 1 = k from rfl, sp_if (by rw [l9]; omega), sp_b, g1.2.2 (k + 8) _ (by omega), g1.2.2 (k + 9) _ (by omega), sp_36 (by omega) hb, sp_bd, ← hV2, sp_b, g2.2.1, hr, sp_if (by omega), show k + 1 - 1 = k from rfl, sp_if (by rw [l8]; omega), sp_b, sp_b, sp_if (by omega), show k + 1 - 1 = k from rfl, sp_if (by rw [l9]; omega), sp_b, g2.2.2 (k + 8) _ (by omega), g2.2.2 (k + 9) _ (by omega), sp_36 (by omega) hb, sp_bd, ← hV3]
  · have e : V3.1 = V1.1 := by rw [hV3, hV2]; rfl
    rw [e, hV1, rd_nk (by omega), rd_eq]
  · have e : V3.1 = V1.1 := by rw [hV3, hV2]; rfl
    rw [e, hV1, rd_eq]
  · have q : ∀ a, cm V1 a b c ↔ cm V a b c := fun a => by
      rw [hV1]
      exact Iff.rfl
    obtain ⟨z1, z2, z3, z4⟩ := a2.2.2 c
    rw [hV3, hV2, put2_cm, put2_cm, put2_cm, put2_cm, put2_cm, put2_cm, put2_cm, put2_cm, q, q, q, q, z1, z2, z3, z4]
    simp [zFV]
theorem L31_1 (hr : U.2.2.1 221 9 = k + 1) (hk : 232 ≤ k) (hb : b < 400) (l1 : ev_aln (k + 1) = 400) (h1 : 1 ≤ U.1 (k + 1) b ∧ U.1 (k + 1) b ≤ 6) : ∃ V, jm_31 Q (b : Int) U = some ((), V) ∧ FRn b U V ∧ VAL b V (0, 1, noP, noP, noP, noP) := by
  obtain ⟨l22, l23, _⟩ := al_G
  obtain ⟨V, a1, a2, a3⟩ := L31 (Q := Q) hr hk hb l1
  refine ⟨ev_pI V 223 b 1, ?_, FRn_t a1 (FRn_p (Or.inr rfl)), ?_, rd_eq, fun c => a2.2.2 c⟩
  · rw [a3, if_pos (by omega)]
    unfold jm_61
    rw [if_neg (by omega), if_neg (by omega), sp_bd, if_neg (by decide), sp_if (by rw [l23]; omega), sp_b, Int.toNat_natCast]
  · rw [rd_nk (by omega)]
    exact a2.1
theorem sp_61o {c : Int} (h : ¬ (1 ≤ c ∧ c ≤ 6)) : jm_61 Q c S = some (0, S) := by
  unfold jm_61
  by_cases z : c < 1
  · rw [if_pos z]
  · rw [if_neg z, if_pos (by omega)]
theorem L31_7 (hr : U.2.2.1 221 9 = k + 1) (hk : 232 ≤ k) (hb : b < 400) (l1 : ev_aln (k + 1) = 400) (h1 : U.1 (k + 1) b = 7 ∨ U.1 (k + 1) b = 9) : ∃ V, jm_31 Q (b : Int) U = some ((), V) ∧ FRn b U V ∧ VAL b V (0, 0, allP, noP, noP, noP) := by
  obtain ⟨V, a1, a2, a3⟩ := L31 (Q := Q) hr hk hb l1
  refine ⟨put2 V 224 b (-4294966272) 9223372036854775807, ?_, FRn_t a1 (FRn_of (FRc_p (by omega))), a2.1, a2.2.1, fun c => ?_⟩
  · rw [a3, if_pos (by omega), sp_61o (by omega), sp_bd, if_pos rfl, sp_jn]
    rcases h1 with z | z
    · rw [if_pos z]
      try dsimp only
      rw [sp_36 (by omega) hb, sp_bd]
    · rw [if_neg (by omega), if_neg (by omega)]
      try dsimp only
      rw [sp_36 (by omega) hb, sp_bd]
  · obtain ⟨z1, z2, z3, z4⟩ := a2.2.2 c
    rw [put2_cm, put2_cm, put2_cm, put2_cm, z1, z2, z3, z4]
    simp [zFV, allP]
theorem L31_x (hr : U.2.2.1 221 9 = k + 1) (hk : 232 ≤ k) (hb : b < 400) (l1 : ev_aln (k + 1) = 400) (h1 : 10 ≤ U.1 (k + 1) b ∧ U.1 (k + 1) b ≤ 12) : ∃ V, jm_31 Q (b : Int) U = some ((), V) ∧ FRn b U V ∧ VAL b V zFV := by
  obtain ⟨V, a1, a2, a3⟩ := L31 (Q := Q) hr hk hb l1
  refine ⟨V, ?_, a1, a2⟩
  rw [a3, if_pos (by omega), sp_61o (by omega), sp_bd, if_pos rfl, sp_jn, if_neg (by omega), if_pos (by omega), sp_62, sp_bd, if_pos (if_neg (by omega)), if_pos (by omega), sp_64, sp_bd, if_pos (if_neg (by unfold hrw; omega))]
theorem L31_r {lo hi : Int} {w : FV} (hr : U.2.2.1 221 9 = k + 1) (hk : 232 ≤ k) (hal : ev_aln (k + 1) = 400 ∧ ev_aln (k + 2) = 400 ∧ ev_aln (k + 3) = 400 ∧ ev_aln (k + 4) = 400) (h1 : U.1 (k + 1) b = 13 ∨ U.1 (k + 1) b = 14) (h4 : U.1 (k + 4) b = (e : Int)) (hlo : U.1 (k + 2) b = lo) (hhi : U.1 (k + 3) b = hi) (rlo : 0 ≤ lo ∧ lo ≤ 20) (rhi : -1 ≤ hi ∧ hi ≤ 20) (h11 : (e : Int) < U.1 k 11) (hb : b < 400) (he : e < 400) (hbe : e ≠ b) (hw : VAL e U w) (r2 : fcv w.1 ∧ fcv w.2.1) : ∃ V, jm_31 Q (b : Int) U = some ((), V) ∧ FRn b U V ∧ VAL b V (repF lo hi w) := by
  obtain ⟨l1, l2, l3, l4⟩ := hal
  obtain ⟨V, a1, a2, a3⟩ := L31 (Q := Q) hr hk hb l1
  obtain ⟨V2, b1, b2, b3⟩ := learn_rep (Q := Q) (S := V) (k := k) (lo := lo) (hi := hi) (by rw [a1.2.1]; exact hr) ⟨l2, l3, l4⟩ (by rw [a1.1 _ _ (by omega)]; exact h4) (by rw [a1.1 _ _ (by omega)]; exact hlo) (by rw [a1.1 _ _ (by omega)]; exact hhi) rlo rhi (by rw [a1.1 _ _ (by omega)]; exact h11) hb he hbe a2 (VAL_e hw a1 hbe) r2
  refine ⟨V2, ?_, FRn_t a1 b2, b3⟩
  rw [a3, if_pos (by omega), sp_61o (by omega), sp_bd, if_pos rfl, sp_jn, if_neg (by omega), if_pos (by omega), sp_62, sp_bd, if_neg (show ¬ ((if U.1 (k + 1) b = 13 ∨ U.1 (k + 1) b = 14 then (1 : Int) else 0) = 0) by rw [if_pos h1]; decide), b1, sp_bd]
theorem L31_row (hr : U.2.2.1 221 9 = k + 1) (hk : 232 ≤ k) (hQ : 400 ≤ Q) (hal : ev_aln (k + 1) = 400 ∧ ev_aln (k + 4) = 400) (h1 : U.1 (k + 1) b = 15) (hX : mbX N X Mb) (hN : N ≤ 320) {c : Int} (hc : mbc Mb 0 c) (h4 : U.1 (k + 4) b = img f c) (hw : chW k b f X Mb W U) (hb : b < 400) : ∃ V, jm_31 Q (b : Int) U = some ((), V) ∧ FRn b U V ∧ VAL b V (chl X (fun v t => rowF v (W t)) 320 c zFV) ∧ fcv (chl X (fun v t => rowF v (W t)) 320 c zFV).1 ∧ fcv (chl X (fun v t => rowF v (W t)) 320 c zFV).2.1 := by
  obtain ⟨l1, l4⟩ := hal
  obtain ⟨V, a1, a2, a3⟩ := L31 (Q := Q) hr hk hb l1
  obtain ⟨V2, b1, b2, b3, b4⟩ := run33 (Q := Q) hX hb 320 Q 0 0 c zFV V (by omega) (by omega) (by omega) hc (chW_c hw a1) a2 ⟨⟨by decide, by decide⟩, by decide, by decide⟩
  refine ⟨V2, ?_, FRn_t a1 b2, b3, b4⟩
  rw [a3, if_pos (by omega), sp_61o (by omega), sp_bd, if_pos rfl, sp_jn, if_neg (by omega), if_pos (by omega), sp_62, sp_bd, if_pos (if_neg (by omega)), if_neg (by omega)]
  unfold jm_33
  rw [sp_b, a1.2.1, hr, sp_if (by omega), show k + 1 - 1 = k from rfl, sp_if (by rw [l4]; omega), sp_b, Int.toNat_natCast, a1.1 _ _ (by omega), h4, show (0 : Int) = ((0 : Nat) : Int) from rfl, b1, sp_bd]
theorem L31_part {K : Int} (hr : U.2.2.1 221 9 = k + 1) (hk : 232 ≤ k) (hQ : 400 ≤ Q) (hal : ev_aln (k + 1) = 400 ∧ ev_aln (k + 4) = 400) (h1 : U.1 (k + 1) b = K) (hK : 16 ≤ K ∨ K = 8) (hX : mbX N X Mb) (hN : N ≤ 320) {c : Int} (hc : mbc Mb 0 c) (h4 : U.1 (k + 4) b = img f c) (hw : chW k b f X Mb W U) (hb : b < 400) : ∃ V, jm_31 Q (b : Int) U = some ((), V) ∧ FRn b U V ∧ VAL b V (partE K (chl X (fun v t => partF K v (W t)) 320 c (0, 1000000, if K = 18 then 2 else 0, noP, noP, noP, noP))) ∧ fcv (chl X (fun v t => partF K v (W t)) 320 c (0, 1000000, if K = 18 then 2 else 0, noP, noP, noP, noP)).2.1 ∧ 0 ≤ (chl X (fun v t => partF K v (W t)) 320 c (0, 1000000, if K = 18 then 2 else 0, noP, noP, noP, noP)).2.2.1 := by
  obtain ⟨l1, l4⟩ := hal
  obtain ⟨V, a1, a2, a3⟩ := L31 (Q := Q) hr hk hb l1
  have g0 : 0 ≤ (if K = 18 then (2 : Int) else 0) ∧ (if K = 18 then (2 : Int) else 0) ≤ 2 := by split <;> decide
  obtain ⟨V2, b1, b2, b3, b4⟩ := run34 (Q := Q) (K := K) hX hb 320 Q 0 0 c (0, 1000000, if K = 18 then 2 else 0, noP, noP, noP, noP) V (by omega) (by omega) (by omega) hc (chW_c hw a1) ⟨a2.1, a2.2.1⟩ a2.2.2 rfl ⟨⟨by show (0 : Int) ≤ 1000000; decide, by show (1000000 : Int) ≤ 1000000; decide⟩, g0.1, by show (if K = 18 then (2 : Int) else 0) ≤ _; omega⟩
  refine ⟨V2, ?_, FRn_t a1 b2, b3, b4⟩
  have g34 : jm_34 Q (b : Int) V = some ((), V2) := by
    rw [← b1]
    unfold jm_34
    rw [sp_b, a1.2.1, hr, sp_if (by omega), show k + 1 - 1 = k from rfl, sp_if (by rw [l1]; omega), sp_b, Int.toNat_natCast, sp_b, sp_if (by omega), show k + 1 - 1 = k from rfl, sp_if (by rw [l4]; omega), sp_b, a1.1 _ _ (by omega), a1.1 (k + 4) _ (by omega), h1, h4, sp_jn]
    by_cases z : K = 18
    · rw [if_neg (fun y => y z)]
      simp only [if_pos z]
      rfl
    · rw [if_pos z]
      simp only [if_neg z]
      rfl
  rw [a3, h1, if_pos (by omega), sp_61o (by omega), sp_bd, if_pos rfl, sp_jn, if_neg (by omega), if_pos (by omega), sp_62, sp_bd, if_pos (if_neg (by omega)), if_pos (by omega), sp_64, sp_bd, if_neg (show ¬ ((if hrw K then (1 : Int) else 0) = 0) by rw [if_pos (by unfold hrw; omega)]; decide), g34, sp_bd]
end FACTC5
