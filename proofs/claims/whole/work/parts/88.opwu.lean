/-! PROGRAMS: the class writes a node -/
section PROG4
variable {Q k g b e N : Nat} {S U V W : ev_St}
/-- writing a node, behind its beginning -/
def R73 (Q k : Nat) (a0 : Nat) (a1 : Int) (a2 : Nat) (x5 : Int) (s12 : ev_St) : Option (Unit × ev_St) := ev_if (a2 ≠ 0) (ev_if ((0 : Int) ≤ a1 ∧ a1 < (ev_aln ((a2 - 1)) : Int)) (ev_b (s12.1 ((a2 - 1)) (Int.toNat a1)) fun x14 => if x5 ≠ 0 then (ev_bd (jm_61 Q x5 s12) fun x17 s16 => if x17 = 0 then (ev_bd (jm_62 Q x5 s16) fun x20 s19 => if x20 = 0 then (if x5 ≠ 15 then (ev_bd (jm_74 Q k a0 a1 a2 s19) fun _ s23 => if x5 ≠ 18 then (some ((), s23)) else (ev_if (a0 ≠ 0) (ev_if ((0 : Int) ≤ a1 ∧ a1 < (ev_aln (((a0 - 1) + 2)) : Int)) (ev_b (s23.1 (((a0 - 1) + 2)) (Int.toNat a1)) fun x26 => ev_ck (2 * x26) fun x27 => ev_bd (jm_78 Q k x14 5 x27 s23) fun _ s28 => ev_if (a0 ≠ 0) (ev_if ((0 : Int) ≤ a1 ∧ a1 < (ev_aln (((a0 - 1) + 2)) : Int)) (ev_b (s28.1 (((a0 - 1) + 2)) (Int.toNat a1)) fun x30 => ev_ck (2 * x30) fun x31 => ev_ck (x31 + 1) fun x32 => ev_bd (jm_76 Q k 5 x32 ((Int64.ofNat ((0 : Fin 2) : Nat))) ((Int64.ofNat ((0 : Fin 2) : Nat))) s28) fun _ s33 => some ((), s33))))))) else (ev_if (a0 ≠ 0) (ev_if ((0 : Int) ≤ a1 ∧ a1 < (ev_aln (((a0 - 1) + 5)) : Int)) (ev_b (s19.1 (((a0 - 1) + 5)) (Int.toNat a1)) fun x35 => if x35 < 0 then (some ((), s19)) else (ev_b (s19.1 k 5) fun x37 => ev_ck (x37 - x14) fun x38 => ev_ck (x38 + 2) fun x39 => ev_bd (jm_78 Q k x14 3 x39 s19) fun _ s40 => ev_bd (jm_76 Q k 2 0 ((Int64.ofNat ((0 : Fin 2) : Nat))) ((Int64.ofNat ((0 : Fin 2) : Nat))) s40) fun _ s41 => some ((), s41)))))) else (ev_if (a0 ≠ 0) (ev_if ((0 : Int) ≤ a1 ∧ a1 < (ev_aln (((a0 - 1) + 2)) : Int)) (ev_b (s19.1 (((a0 - 1) + 2)) (Int.toNat a1)) fun x43 => ev_if (a0 ≠ 0) (ev_if ((0 : Int) ≤ a1 ∧ a1 < (ev_aln (((a0 - 1) + 3)) : Int)) (ev_b (s19.1 (((a0 - 1) + 3)) (Int.toNat a1)) fun x45 => ev_jn (fun (x50 : Int) (x49 : Int) (x48 : Int) (x47 : Int) (r46 : Nat) (s52 : ev_St) => ev_bd (jm_75 Q r46 x47 x48 x49 x50 s52) fun _ s53 => some ((), s53)) fun K121 => if x5 ≠ 13 then (K121 4 x45 x43 x14 k s19) else (K121 3 x45 x43 x14 k s19))))))) else (ev_bd (jm_76 Q k 1 x5 ((Int64.ofNat ((0 : Fin 2) : Nat))) ((Int64.ofNat ((0 : Fin 2) : Nat))) s16) fun _ s55 => some ((), s55))) else (ev_if (a0 ≠ 0) (ev_if ((0 : Int) ≤ a1 ∧ a1 < (ev_aln (((a0 - 1) + 8)) : Int)) (ev_b (s12.2.1 (((a0 - 1) + 8)) (Int.toNat a1)) fun y57 => ev_if (a0 ≠ 0) (ev_if ((0 : Int) ≤ a1 ∧ a1 < (ev_aln (((a0 - 1) + 9)) : Int)) (ev_b (s12.2.1 (((a0 - 1) + 9)) (Int.toNat a1)) fun y59 => ev_bd (jm_76 Q k 0 0 y57 y59 s12) fun _ s60 => some ((), s60))))))))
def FRb (b : Nat) (U V : ev_St) : Prop := (∀ x i, ¬ (x = 228 ∧ i = b) → V.1 x i = U.1 x i) ∧ V.2 = U.2
theorem PL_b {L : List INS} (h : PL g U L) (hf : FRb b U V) (hg : 232 ≤ g) : PL g V L := by
  obtain ⟨a, c, d⟩ := h
  refine ⟨by rw [hf.1 _ _ (by omega)]; exact a, c, fun i x hx => ?_⟩
  rw [hf.1 _ _ (by omega), hf.1 _ _ (by omega), hf.2]
  exact d i x hx
theorem al228 : ev_aln 228 = 400 ∧ ev_aln 229 = 400 := by decide +kernel
theorem W73 {n : Nat} (hk : ev_isOb k 5 = true) (hkr : 232 ≤ k) (hb : b < 400) (h : (U.1 (k + 4) b < 0 ∧ U.1 228 b = (n : Int)) ∨ ∃ e : Nat, U.1 (k + 4) b = (e : Int) ∧ e < 400 ∧ U.1 228 e = (n : Int)) : ∃ U1, jm_73 Q g (k + 1) (b : Int) (228 + 1) U = R73 Q g (k + 1) (b : Int) (228 + 1) (U.1 (k + 1) b) U1 ∧ FRb b U U1 ∧ U1.1 228 b = (n : Int) := by
  obtain ⟨l1, l2, l3, l4, l5, _⟩ := al_Pt hk
  have l28 := al228.1
  rcases h with ⟨h1, h2⟩ | ⟨e, h1, h2, h3⟩
  · refine ⟨U, ?_, ⟨fun _ _ _ => rfl, rfl⟩, h2⟩
    unfold jm_73
    rw [sp_if (by omega), show k + 1 - 1 = k from rfl, sp_if (by rw [l1]; omega), sp_b, sp_if (by omega), sp_if (by rw [l4]; omega), sp_b, sp_jn, Int.toNat_natCast, if_pos h1]
    rfl
  · refine ⟨ev_pI U 228 b (n : Int), ?_, ⟨fun x i z => by rw [sp_pI1, if_neg z], rfl⟩, rd_eq⟩
    unfold jm_73
    rw [sp_if (by omega), show k + 1 - 1 = k from rfl, sp_if (by rw [l1]; omega), sp_b, sp_if (by omega), sp_if (by rw [l4]; omega), sp_b, sp_jn, Int.toNat_natCast, h1, if_neg (by omega), sp_if (by omega), show (228 + 1 - 1 : Nat) = 228 from rfl, sp_b, if_neg (by rw [l28]; omega), sp_if (by omega), sp_if (by rw [l28]; omega), sp_b, Int.toNat_natCast, h3, sp_if (by omega), sp_if (by rw [l28]; omega), sp_b]
    rfl
theorem W73_0 {L : List INS} {n : Nat} (hk : ev_isOb k 5 = true) (hkr : 232 ≤ k) (hg : al5 g) (hb : b < 400) (h : U.1 228 b = (n : Int)) (hp : PL g U L) (hl : L.length < 208) : ∃ V, R73 Q g (k + 1) (b : Int) (228 + 1) 0 U = some ((), V) ∧ FRp g U V ∧ PL g V (L ++ [(0, 0, U.2.1 (k + 8) b, U.2.1 (k + 9) b)]) := by
  obtain ⟨l1, l2, l3, l4, l5, _, _, l8, l9⟩ := al_Pt hk
  have l28 := al228.1
  obtain ⟨V, v1, v2, v3⟩ := PL_add (Q := Q) (a := 0) (b := 0) (c := U.2.1 (k + 8) b) (d := U.2.1 (k + 9) b) hg hp hl
  refine ⟨V, ?_, v3, v2⟩
  unfold R73
  rw [sp_if (by omega), show (228 + 1 - 1 : Nat) = 228 from rfl, sp_if (by rw [l28]; omega), sp_b, if_neg (fun z => z rfl), sp_if (by omega), show k + 1 - 1 = k from rfl, sp_if (by rw [l8]; omega), sp_b, sp_if (by omega), sp_if (by rw [l9]; omega), sp_b, Int.toNat_natCast, v1, sp_bd]
theorem W73_1 {L : List INS} {n : Nat} {kd : Int} (hkd : 1 ≤ kd ∧ kd ≤ 6) (hg : al5 g) (hb : b < 400) (h : U.1 228 b = (n : Int)) (hp : PL g U L) (hl : L.length < 208) : ∃ V, R73 Q g (k + 1) (b : Int) (228 + 1) kd U = some ((), V) ∧ FRp g U V ∧ PL g V (L ++ [ins 1 kd]) := by
  have l28 := al228.1
  obtain ⟨V, v1, v2, v3⟩ := PL_add (Q := Q) (a := 1) (b := kd) (c := Int64.ofNat ((0 : Fin 2) : Nat)) (d := Int64.ofNat ((0 : Fin 2) : Nat)) hg hp hl
  refine ⟨V, ?_, v3, v2⟩
  unfold R73
  rw [sp_if (by omega), show (228 + 1 - 1 : Nat) = 228 from rfl, sp_if (by rw [l28]; omega), sp_b, if_pos (by omega)]
  unfold jm_61
  rw [if_neg (by omega), if_neg (by omega), sp_bd, if_neg (by decide), v1, sp_bd]
theorem W73_r {A X : List INS} {kd lo hi : Int} (hQ : 400 ≤ Q) (hk : ev_isOb k 5 = true) (hkd : kd = 13 ∨ kd = 14) (hg : al5 g) (hb : b < 400) (h : U.1 228 b = (A.length : Int)) (h2 : U.1 (k + 2) b = lo) (h3 : U.1 (k + 3) b = hi) (hlo : 0 ≤ lo ∧ lo ≤ 20) (hhi : -1 ≤ hi ∧ hi ≤ 20) (hp : PL g U (A ++ X)) (hl : A.length + (repL (if kd = 13 then 3 else 4) lo hi X).length ≤ 208) : ∃ V, R73 Q g (k + 1) (b : Int) (228 + 1) kd U = some ((), V) ∧ FRp g U V ∧ PL g V (A ++ repL (if kd = 13 then 3 else 4) lo hi X) := by
  obtain ⟨l1, l2, l3, l4, l5, _⟩ := al_Pt hk
  have l28 := al228.1
  obtain ⟨V, v1, v2, v3⟩ := PL_rep (Q := Q) (A := A) (X := X) (fork := if kd = 13 then 3 else 4) (lo := lo) (hi := hi) hQ hg (by split <;> decide) hlo hhi hp hl
  refine ⟨V, ?_, v2, v3⟩
  unfold R73
  rw [sp_if (by omega), show (228 + 1 - 1 : Nat) = 228 from rfl, sp_if (by rw [l28]; omega), sp_b, if_pos (by omega), sp_61o (by omega), sp_bd, if_pos rfl, sp_62, sp_bd, if_neg (show ¬ ((if kd = 13 ∨ kd = 14 then (1 : Int) else 0) = 0) by rw [if_pos hkd]; decide), sp_if (by omega), show k + 1 - 1 = k from rfl, sp_if (by rw [l2]; omega), sp_b, sp_if (by omega), sp_if (by rw [l3]; omega), sp_b, sp_jn, Int.toNat_natCast, h, h2, h3]
  by_cases z : kd = 13
  · rw [if_pos z] at v1
    rw [if_neg (fun y => y z)]
    try dsimp only
    rw [v1, sp_bd]
  · rw [if_neg z] at v1
    rw [if_pos z]
    try dsimp only
    rw [v1, sp_bd]
theorem W73_row {A X : List INS} (hk : ev_isOb k 5 = true) (hg : al5 g) (hb : b < 400) (h : U.1 228 b = (A.length : Int)) (hp : PL g U (A ++ X)) (hl : A.length + X.length + 2 ≤ 208) : (U.1 (k + 5) b < 0 → R73 Q g (k + 1) (b : Int) (228 + 1) 15 U = some ((), U)) ∧ (0 ≤ U.1 (k + 5) b → ∃ V, R73 Q g (k + 1) (b : Int) (228 + 1) 15 U = some ((), V) ∧ FRp g U V ∧ PL g V (A ++ (ins 3 ((X.length : Int) + 2) :: X) ++ [ins 2 0])) := by
  obtain ⟨l1, l2, l3, l4, l5, _⟩ := al_Pt hk
  have l28 := al228.1
  have h1 := hp.1
  rw [List.length_append] at h1
  refine ⟨fun z => ?_, fun z => ?_⟩
  · unfold R73
    rw [sp_if (by omega), show (228 + 1 - 1 : Nat) = 228 from rfl, sp_if (by rw [l28]; omega), sp_b, if_pos (by omega), sp_61o (by omega), sp_bd, if_pos rfl, sp_62, sp_bd, if_pos (if_neg (by omega)), if_neg (fun y => y rfl), sp_if (by omega), show k + 1 - 1 = k from rfl, sp_if (by rw [l5]; omega), sp_b, Int.toNat_natCast, if_pos z]
  · obtain ⟨V1, v1, v2, v3⟩ := PL_ins (Q := Q) (A := A) (B := X) (a := 3) (b := (X.length : Int) + 2) (c := Int64.ofNat ((0 : Fin 2) : Nat)) (d := Int64.ofNat ((0 : Fin 2) : Nat)) hg (by decide) hp (by omega)
    obtain ⟨V, w1, w2, w3⟩ := PL_add (Q := Q) (a := 2) (b := 0) (c := Int64.ofNat ((0 : Fin 2) : Nat)) (d := Int64.ofNat ((0 : Fin 2) : Nat)) hg v2 (by rw [List.length_append, List.length_cons]; omega)
    refine ⟨V, ?_, FRp_t v3 w3, w2⟩
    unfold R73
    rw [sp_if (by omega), show (228 + 1 - 1 : Nat) = 228 from rfl, sp_if (by rw [l28]; omega), sp_b, if_pos (by omega), sp_61o (by omega), sp_bd, if_pos rfl, sp_62, sp_bd, if_pos (if_neg (by omega)), if_neg (fun y => y rfl), sp_if (by omega), show k + 1 - 1 = k from rfl, sp_if (by rw [l5]; omega), sp_b, Int.toNat_natCast, if_neg (by omega), sp_b, h1, h, sp_ck (by omega), sp_ck (by omega), show ((A.length + X.length : Nat) : Int) - (A.length : Int) + 2 = (X.length : Int) + 2 from by omega, v1, sp_bd, w1, sp_bd]
/-- a part: jumps aimed; a group's two places -/
theorem W73_part {A X Y : List INS} {kd num : Int} (hk : ev_isOb k 5 = true) (hgk : g = k + 12) (hkd : kd = 16 ∨ kd = 17 ∨ kd = 18) (hg : al5 g) (hb : b < 400) (h : U.1 228 b = (A.length : Int)) (h2 : kd = 18 → U.1 (k + 2) b = num ∧ 0 ≤ num ∧ num ≤ 9) (hj : ∃ V, jm_74 Q g (k + 1) (b : Int) (228 + 1) U = some ((), V) ∧ FRp g U V ∧ PL g V (A ++ Y)) (hl : A.length + Y.length + 2 ≤ 208) : ∃ V, R73 Q g (k + 1) (b : Int) (228 + 1) kd U = some ((), V) ∧ FRp g U V ∧ PL g V (A ++ (if kd = 18 then ins 5 (2 * num) :: Y ++ [ins 5 (2 * num + 1)] else Y)) := by
  obtain ⟨l1, l2, l3, l4, l5, _⟩ := al_Pt hk
  have l28 := al228.1
  obtain ⟨V0, j1, j2, j3⟩ := hj
  by_cases z : kd = 18
  · obtain ⟨n1, n2⟩ := h2 z
    obtain ⟨V1, v1, v2, v3⟩ := PL_ins (Q := Q) (A := A) (B := Y) (a := 5) (b := 2 * num) (c := Int64.ofNat ((0 : Fin 2) : Nat)) (d := Int64.ofNat ((0 : Fin 2) : Nat)) hg (by decide) j3 (by omega)
    obtain ⟨V, w1, w2, w3⟩ := PL_add (Q := Q) (a := 5) (b := 2 * num + 1) (c := Int64.ofNat ((0 : Fin 2) : Nat)) (d := Int64.ofNat ((0 : Fin 2) : Nat)) hg v2 (by rw [List.length_append, List.length_cons]; omega)
    refine ⟨V, ?_, FRp_t j2 (FRp_t v3 w3), ?_⟩
    · unfold R73
      rw [sp_if (by omega), show (228 + 1 - 1 : Nat) = 228 from rfl, sp_if (by rw [l28]; omega), sp_b, if_pos (by omega), sp_61o (by omega), sp_bd, if_pos rfl, sp_62, sp_bd, if_pos (if_neg (by omega)), if_pos (by omega), j1, sp_bd, if_neg (fun y => y z), sp_if (by omega), show k + 1 - 1 = k from rfl, sp_if (by rw [l2]; omega), sp_b, Int.toNat_natCast, j2.1 (k + 2) b (by omega), n1, sp_ck (by omega), h, v1, sp_bd, sp_if (by omega), sp_if (by rw [l2]; omega), sp_b, v3.1 (k + 2) b (by omega), j2.1 (k + 2) b (by omega), n1, sp_ck (by omega), sp_ck (by omega), w1, sp_bd]
    · rw [if_pos z]
      have ee : A ++ (ins 5 (2 * num) :: Y ++ [ins 5 (2 * num + 1)]) = A ++ ins 5 (2 * num) :: Y ++ [ins 5 (2 * num + 1)] := by rw [List.append_assoc]
      rw [ee]
      exact w2
  · refine ⟨V0, ?_, j2, by rw [if_neg z]; exact j3⟩
    unfold R73
    rw [sp_if (by omega), show (228 + 1 - 1 : Nat) = 228 from rfl, sp_if (by rw [l28]; omega), sp_b, if_pos (by omega), sp_61o (by omega), sp_bd, if_pos rfl, sp_62, sp_bd, if_pos (if_neg (by omega)), if_pos (by omega), j1, sp_bd, if_pos z]
end PROG4
