/-! FACTS: the class's literal, the loop -/
section FACTL2
variable {Q k b e N M m t i : Nat} {S U V : ev_St}
theorem FRt_k (hf : FRt k S U) (hkr : 232 ≤ k) : (∀ j g, j ≠ 18 → j ≠ 19 → U.1 (k + j) g = S.1 (k + j) g) ∧ (∀ g, g ≠ 1 → U.1 k g = S.1 k g) ∧ U.2 = S.2 := ⟨fun j g h1 h2 => hf.1 _ _ (by omega), fun g h => hf.1 _ _ (by omega), hf.2⟩
theorem onlyC_c (hf : FRt k S U) (hkr : 232 ≤ k) {a : Int} : onlyC k M U a = onlyC k M S a := by
  have q := FRt_k hf hkr
  unfold onlyC rowC
  rw [q.1 4 _ (by omega) (by omega), q.1 5 _ (by omega) (by omega)]
theorem st40_142 {JJ : Int → Int → ev_St → Option (Unit × ev_St)} {x44 x45 x46 : Int} (hk : ev_isOb k 5 = true) (hr : U.2.2.1 221 9 = k + 1) (h11 : U.1 k 11 = (M : Int)) : ev_jn JJ (fun K142 => ev_jn (fun (x110 : Int) (s116 : ev_St) => K142 x110 0 s116) fun K141 => if x45 < 17 then (K141 x46 U) else (if 19 < x45 then (K141 x46 U) else (ev_b (U.2.2.1 221 9) fun r119 => ev_if (r119 ≠ 0) (ev_bd (jm_65 Q ((r119 - 1)) x44 U) fun x122 s121 => if x122 < 0 then (K141 x46 s121) else (K142 x46 1 s121))))) = JJ x46 (if (17 ≤ x45 ∧ x45 ≤ 19) ∧ 0 ≤ onlyC k M U x44 then 1 else 0) U := by
  rw [sp_jn, sp_jn]
  by_cases a : x45 < 17
  · rw [if_pos a, if_neg (by omega)]
  · by_cases c : 19 < x45
    · rw [if_neg a, if_pos c, if_neg (by omega)]
    · rw [if_neg a, if_neg c, sp_b, hr, sp_if (by omega), show k + 1 - 1 = k from rfl, sp_65 hk h11, sp_bd]
      by_cases d : onlyC k M U x44 < 0
      · rw [if_pos d, if_neg (by omega)]
      · rw [if_neg d, if_pos (by omega)]
theorem st40_177 {JJ : Int → Int → ev_St → Option (Unit × ev_St)} {x44 en op : Int} (hk : ev_isOb k 5 = true) (hr : U.2.2.1 221 9 = k + 1) (hv : litV M x44) : ev_jn JJ (fun K177 => ev_jn (fun (x94 : Int) (s101 : ev_St) => ev_b (s101.2.2.1 221 9) fun r102 => ev_if (r102 ≠ 0) (ev_if ((0 : Int) ≤ x44 ∧ x44 < (ev_aln (((r102 - 1) + 7)) : Int)) (ev_b (s101.1 (((r102 - 1) + 7)) (Int.toNat x44)) fun x104 => K177 x94 x104 s101))) fun K167 => if en = 0 then (K167 op U) else (if op = 0 then (K167 op U) else (ev_b (U.2.2.1 221 9) fun r107 => ev_if (r107 ≠ 0) (ev_if ((0 : Int) ≤ x44 ∧ x44 < (ev_aln (((r107 - 1) + 6)) : Int)) (ev_b (U.1 (((r107 - 1) + 6)) (Int.toNat x44)) fun x109 => K177 op x109 U))))) = JJ op (if en = 0 ∨ op = 0 then U.1 (k + 7) x44.toNat else U.1 (k + 6) x44.toNat) U := by
  obtain ⟨l1, l2, l3, l4, l5, l6, l7, l8, l9⟩ := al_Pt hk
  rw [sp_jn, sp_jn]
  by_cases a : en = 0
  · rw [if_pos a, if_pos (Or.inl a)]
    try dsimp only
    rw [sp_b, hr, sp_if (by omega), show k + 1 - 1 = k from rfl, sp_if (by rw [l7]; omega), sp_b]
  · by_cases c : op = 0
    · rw [if_neg a, if_pos c, if_pos (Or.inr c)]
      try dsimp only
      rw [sp_b, hr, sp_if (by omega), show k + 1 - 1 = k from rfl, sp_if (by rw [l7]; omega), sp_b]
    · rw [if_neg a, if_neg c, if_neg (by omega), sp_b, hr, sp_if (by omega), show k + 1 - 1 = k from rfl, sp_if (by rw [l6]; omega), sp_b]
theorem st40_237 {x44 en op x62 x73 : Int} {run best : List Int} (hQ : 400 ≤ Q) (hk : ev_isOb k 5 = true) (hkr : 232 ≤ k) (ho : ev_isOb (k + 18) 10 = true) (hr : U.2.2.1 221 9 = k + 1) (hv : litV M x44) (h : RLt U 230 run) (h2 : RLt U (k + 18) best) : ∃ V, (∀ JJ : Int → ev_St → Option (Unit × ev_St), ev_jn JJ (fun K237 => if x73 = 0 then (if en = 0 then (K237 x62 U) else (if op ≠ 0 then (K237 x62 U) else (ev_bd (jm_41 Q  U) fun _ s84 => K237 x62 s84))) else (ev_b (U.2.2.1 221 9) fun r85 => ev_if (r85 ≠ 0) (ev_if ((0 : Int) ≤ x44 ∧ x44 < (ev_aln (((r85 - 1) + 8)) : Int)) (ev_b (U.2.1 (((r85 - 1) + 8)) (Int.toNat x44)) fun y87 => ev_b (U.2.2.1 221 9) fun r88 => ev_if (r88 ≠ 0) (ev_if ((0 : Int) ≤ x44 ∧ x44 < (ev_aln (((r88 - 1) + 9)) : Int)) (ev_b (U.2.1 (((r88 - 1) + 9)) (Int.toNat x44)) fun y90 => ev_bd (jm_30 Q y87 y90 U) fun x92 s91 => ev_bd (jm_152 Q 230 x92 s91) fun _ s93 => K237 x62 s93)))))) = JJ x62 V) ∧ FRt k U V ∧ (if x73 ≠ 0 then RLt V 230 (addR run (lowC (U.2.1 (k + 8) x44.toNat) (U.2.1 (k + 9) x44.toNat) 128 0)) ∧ RLt V (k + 18) best else if en ≠ 0 ∧ op = 0 then RLt V 230 [] ∧ RLt V (k + 18) (lngr run best) else RLt V 230 run ∧ RLt V (k + 18) best) := by
  obtain ⟨l1, l2, l3, l4, l5, l6, l7, l8, l9⟩ := al_Pt hk
  by_cases a : x73 = 0
  · by_cases c : en ≠ 0 ∧ op = 0
    · obtain ⟨V, v1, v2, v3, v4⟩ := sp_41R (Q := Q) hkr ho hr h h2
      refine ⟨V, fun JJ => ?_, v4, ?_⟩
      · rw [sp_jn, if_pos a, if_neg c.1, if_neg (fun z => z c.2), v1, sp_bd]
      · rw [if_neg (fun z => z a), if_pos c]
        exact ⟨v2, v3⟩
    · refine ⟨U, fun JJ => ?_, ⟨fun _ _ _ => rfl, rfl⟩, ?_⟩
      · rw [sp_jn, if_pos a]
        by_cases d : en = 0
        · rw [if_pos d]
        · rw [if_neg d, if_pos (fun z => c ⟨d, z⟩)]
      · rw [if_neg (fun z => z a), if_neg c]
        exact ⟨h, h2⟩
  · obtain ⟨V, v1, v2, v3, v4⟩ := sp_152R (Q := Q) (c := lowC (U.2.1 (k + 8) x44.toNat) (U.2.1 (k + 9) x44.toNat) 128 0) hkr h h2
    refine ⟨V, fun JJ => ?_, v4, ?_⟩
    · rw [sp_jn, if_neg a, sp_b, hr, sp_if (by omega), show k + 1 - 1 = k from rfl, sp_if (by rw [l8]; omega), sp_b, sp_b, sp_if (by omega), show k + 1 - 1 = k from rfl, sp_if (by rw [l9]; omega), sp_b, sp_30 hQ, sp_bd, v1, sp_bd]
    · rw [if_pos a]
      exact ⟨v2, v3⟩
theorem litL (hQ : 400 ≤ Q) (hk : ev_isOb k 5 = true) (hkr : 232 ≤ k) (ho : ev_isOb (k + 18) 10 = true) (hr : S.2.2.1 221 9 = k + 1) (h11 : S.1 k 11 = (M : Int)) : ∀ (n q i : Nat) (c : Int) (U : ev_St) (run best : List Int), n < q → i + n = 1600 → FRt k S U → RLt U 230 run → RLt U (k + 18) best → ∃ V, jl_40_61 Q q c (i : Int) U = some ((), V) ∧ FRt k S V ∧ RLt V (k + 18) (litF k M S n c run best)
  | n, 0, i, c, U, run, best, h, _, _, _, _ => by omega
  | 0, q + 1, i, c, U, run, best, _, hi, hf, h1, h2 => by
    have f := FRt_k hf hkr
    have hrU : U.2.2.1 221 9 = k + 1 := by rw [f.2.2]; exact hr
    obtain ⟨V, v1, v2, v3, v4⟩ := sp_41R (Q := Q) hkr ho hrU h1 h2
    refine ⟨V, ?_, FRt_t hf v4, v3⟩
    show jb_40_61 Q _ _ _ U = _
    unfold jb_40_61
    rw [sp_jn, if_pos (by omega)]
    try dsimp only
    rw [v1, sp_bd]
  | n + 1, q + 1, i, c, U, run, best, hq, hi, hf, h1, h2 => by
    have f := FRt_k hf hkr
    obtain ⟨l1, l2, l3, l4, l5, l6, l7, l8, l9⟩ := al_Pt hk
    have hrU : U.2.2.1 221 9 = k + 1 := by rw [f.2.2]; exact hr
    have h11U : U.1 k 11 = (M : Int) := by rw [f.2.1 11 (by omega)]; exact h11
    by_cases z : litV M (ev_ishr c 2)
    · obtain ⟨V, v1, v2, v3⟩ := st40_237 (Q := Q) (U := U) (x44 := ev_ishr c 2) (en := if ev_iand c 3 = 0 then 1 else 0) (op := if (17 ≤ U.1 (k + 1) (ev_ishr c 2).toNat ∧ U.1 (k + 1) (ev_ishr c 2).toNat ≤ 19) ∧ 0 ≤ onlyC k M U (ev_ishr c 2) then 1 else 0) (x62 := nxC k M S c) (x73 := if oneC k U (ev_ishr c 2) then 1 else 0) hQ hk hkr ho hrU z h1 h2
      have fV := FRt_t hf v2
      have run' : ∃ run2 best2, RLt V 230 run2 ∧ RLt V (k + 18) best2 ∧ litF k M S (n + 1) c run best = litF k M S n (nxC k M S c) run2 best2 := by
        have e1 : oneC k U (ev_ishr c 2) ↔ oneC k S (ev_ishr c 2) := by
          unfold oneC
          rw [f.1 1 _ (by omega) (by omega), f.2.2]
        have e2 : ((17 ≤ U.1 (k + 1) (ev_ishr c 2).toNat ∧ U.1 (k + 1) (ev_ishr c 2).toNat ≤ 19) ∧ 0 ≤ onlyC k M U (ev_ishr c 2)) ↔ opC k M S c := by
          unfold opC
          rw [f.1 1 _ (by omega) (by omega), onlyC_c hf hkr]
        have lf : litF k M S (n + 1) c run best = (if oneC k S (ev_ishr c 2) then litF k M S n (nxC k M S c) (addR run (lowC (S.2.1 (k + 8) (ev_ishr c 2).toNat) (S.2.1 (k + 9) (ev_ishr c 2).toNat) 128 0)) best else if ev_iand c 3 = 0 ∧ ¬ opC k M S c then litF k M S n (nxC k M S c) [] (lngr run best) else litF k M S n (nxC k M S c) run best) := by
          rw [litF, if_pos z]
        rw [lf]
        by_cases c1 : oneC k S (ev_ishr c 2)
        · rw [if_pos (show (if oneC k U (ev_ishr c 2) then (1 : Int) else 0) ≠ 0 by rw [if_pos (e1.mpr c1)]; decide)] at v3
          refine ⟨_, _, v3.1, v3.2, ?_⟩
          rw [if_pos c1, f.2.2]
        · rw [if_neg (show ¬ ((if oneC k U (ev_ishr c 2) then (1 : Int) else 0) ≠ 0) by rw [if_neg (fun y => c1 (e1.mp y))]; decide)] at v3
          rw [if_neg c1]
          by_cases c2 : ev_iand c 3 = 0 ∧ ¬ opC k M S c
          · rw [if_pos (show (if ev_iand c 3 = 0 then (1 : Int) else 0) ≠ 0 ∧ (if (17 ≤ U.1 (k + 1) (ev_ishr c 2).toNat ∧ U.1 (k + 1) (ev_ishr c 2).toNat ≤ 19) ∧ 0 ≤ onlyC k M U (ev_ishr c 2) then (1 : Int) else 0) = 0 by rw [if_pos c2.1, if_neg (fun y => c2.2 (e2.mp y))]; decide)] at v3
            exact ⟨_, _, v3.1, v3.2, by rw [if_pos c2]⟩
          · rw [if_neg (show ¬ ((if ev_iand c 3 = 0 then (1 : Int) else 0) ≠ 0 ∧ (if (17 ≤ U.1 (k + 1) (ev_ishr c 2).toNat ∧ U.1 (k + 1) (ev_ishr c 2).toNat ≤ 19) ∧ 0 ≤ onlyC k M U (ev_ishr c 2) then (1 : Int) else 0) = 0) by
              rintro ⟨y1, y2⟩
              by_cases w : ev_iand c 3 = 0
              · by_cases w2 : opC k M S c
                · rw [if_pos (e2.mpr w2)] at y2
                  exact absurd y2 (by decide)
                · exact c2 ⟨w, w2⟩
              · rw [if_neg w] at y1
                exact y1 rfl)] at v3
            exact ⟨_, _, v3.1, v3.2, by rw [if_neg c2]⟩
      obtain ⟨run2, best2, r1, r2, r3⟩ := run'
      obtain ⟨V2, w1, w2, w3⟩ := litL hQ hk hkr ho hr h11 n q (i + 1) (nxC k M S c) V run2 best2 (by omega) (by omega) fV r1 r2
      refine ⟨V2, ?_, w2, by rw [r3]; exact w3⟩
      rw [← w1]
      have en_e : nxC k M S c = (if (if ev_iand c 3 = 0 then (1 : Int) else 0) = 0 ∨ (if (17 ≤ U.1 (k + 1) (ev_ishr c 2).toNat ∧ U.1 (k + 1) (ev_ishr c 2).toNat ≤ 19) ∧ 0 ≤ onlyC k M U (ev_ishr c 2) then (1 : Int) else 0) = 0 then U.1 (k + 7) (ev_ishr c 2).toNat else U.1 (k + 6) (ev_ishr c 2).toNat) := by
        unfold nxC
        have e2 : ((17 ≤ U.1 (k + 1) (ev_ishr c 2).toNat ∧ U.1 (k + 1) (ev_ishr c 2).toNat ≤ 19) ∧ 0 ≤ onlyC k M U (ev_ishr c 2)) ↔ opC k M S c := by
          unfold opC
          rw [f.1 1 _ (by omega) (by omega), onlyC_c hf hkr]
        rw [f.1 6 _ (by omega) (by omega), f.1 7 _ (by omega) (by omega)]
        by_cases w : ev_iand c 3 = 0
        · by_cases w2 : opC k M S c
          · rw [if_pos ⟨w, w2⟩, if_pos w, if_pos (e2.mpr w2), if_neg (by decide)]
          · rw [if_neg (fun y => w2 y.2), if_pos w, if_neg (fun y => w2 (e2.mp y)), if_pos (Or.inr rfl)]
        · rw [if_neg (fun y => w y.1), if_neg w, if_pos (Or.inl rfl)]
      show jb_40_61 Q _ _ _ U = _
      unfold jb_40_61
      rw [sp_jn, if_neg (by omega), sp_b, hrU, sp_b, sp_if (by omega), show k + 1 - 1 = k from rfl, sp_59, sp_bd, h11U, if_neg (show ¬ ((if 0 ≤ ev_ishr c 2 ∧ ev_ishr c 2 < (M : Int) ∧ ev_ishr c 2 < 400 then (1 : Int) else 0) = 0) by rw [if_pos z]; decide), sp_b, sp_b, hrU, sp_if (by omega), show k + 1 - 1 = k from rfl, sp_if (by rw [l1]; omega), sp_b, sp_b, sp_jn]
      have tl : ∀ x46 : Int, x46 = (if ev_iand c 3 = 0 then 1 else 0) → (ev_jn (fun (x53 : Int) (x54 : Int) (s60 : ev_St) => ev_jn (fun (x61 : Int) (x62 : Int) (s69 : ev_St) => ev_b (s69.2.2.1 221 9) fun r70 => ev_if (r70 ≠ 0) (ev_bd (jm_66 Q ((r70 - 1)) (ev_ishr c 2) s69) fun x73 s72 => ev_jn (fun (x74 : Int) (s79 : ev_St) => ev_ck ((i : Int) + 1) fun x80 => jl_40_61 Q q x74 x80 s79) fun K237 => if x73 = 0 then (if x53 = 0 then (K237 x62 s72) else (if x61 ≠ 0 then (K237 x62 s72) else (ev_bd (jm_41 Q  s72) fun _ s84 => K237 x62 s84))) else (ev_b (s72.2.2.1 221 9) fun r85 => ev_if (r85 ≠ 0) (ev_if ((0 : Int) ≤ (ev_ishr c 2) ∧ (ev_ishr c 2) < (ev_aln (((r85 - 1) + 8)) : Int)) (ev_b (s72.2.1 (((r85 - 1) + 8)) (Int.toNat (ev_ishr c 2))) fun y87 => ev_b (s72.2.2.1 221 9) fun r88 => ev_if (r88 ≠ 0) (ev_if ((0 : Int) ≤ (ev_ishr c 2) ∧ (ev_ishr c 2) < (ev_aln (((r88 - 1) + 9)) : Int)) (ev_b (s72.2.1 (((r88 - 1) + 9)) (Int.toNat (ev_ishr c 2))) fun y90 => ev_bd (jm_30 Q y87 y90 s72) fun x92 s91 => ev_bd (jm_152 Q 230 x92 s91) fun _ s93 => K237 x62 s93))))))) fun K177 => ev_jn (fun (x94 : Int) (s101 : ev_St) => ev_b (s101.2.2.1 221 9) fun r102 => ev_if (r102 ≠ 0) (ev_if ((0 : Int) ≤ (ev_ishr c 2) ∧ (ev_ishr c 2) < (ev_aln (((r102 - 1) + 7)) : Int)) (ev_b (s101.1 (((r102 - 1) + 7)) (Int.toNat (ev_ishr c 2))) fun x104 => K177 x94 x104 s101))) fun K167 => if x53 = 0 then (K167 x54 s60) else (if x54 = 0 then (K167 x54 s60) else (ev_b (s60.2.2.1 221 9) fun r107 => ev_if (r107 ≠ 0) (ev_if ((0 : Int) ≤ (ev_ishr c 2) ∧ (ev_ishr c 2) < (ev_aln (((r107 - 1) + 6)) : Int)) (ev_b (s60.1 (((r107 - 1) + 6)) (Int.toNat (ev_ishr c 2))) fun x109 => K177 x54 x109 s60))))) fun K142 => ev_jn (fun (x110 : Int) (s116 : ev_St) => K142 x110 0 s116) fun K141 => if (U.1 (k+1) (ev_ishr c 2).toNat) < 17 then (K141 x46 U) else (if 19 < (U.1 (k+1) (ev_ishr c 2).toNat) then (K141 x46 U) else (ev_b (U.2.2.1 221 9) fun r119 => ev_if (r119 ≠ 0) (ev_bd (jm_65 Q ((r119 - 1)) (ev_ishr c 2) U) fun x122 s121 => if x122 < 0 then (K141 x46 s121) else (K142 x46 1 s121))))) = jl_40_61 Q q (nxC k M S c) ((i + 1 : Nat) : Int) V := fun x46 h46 => by
        rw [st40_142 (M := M) hk hrU h11U]
        try dsimp only
        rw [st40_177 (M := M) hk hrU z]
        try dsimp only
        rw [sp_b, hrU, sp_if (by omega), show k + 1 - 1 = k from rfl, sp_66 (M := M) hk h11U z, sp_bd, h46, ← en_e, v1]
        try dsimp only
        rw [sp_ck (by omega), show (i : Int) + 1 = ((i + 1 : Nat) : Int) from by omega]
      by_cases w : ev_iand c 3 = 0
      · rw [if_neg (fun y => y w)]
        try dsimp only
        exact tl 1 (by rw [if_pos w])
      · rw [if_pos w]
        try dsimp only
        exact tl 0 (by rw [if_neg w])
    · obtain ⟨V, v1, v2, v3, v4⟩ := sp_41R (Q := Q) hkr ho hrU h1 h2
      refine ⟨V, ?_, FRt_t hf v4, ?_⟩
      · show jb_40_61 Q _ _ _ U = _
        unfold jb_40_61
        rw [sp_jn, if_neg (by omega), sp_b, hrU, sp_b, sp_if (by omega), show k + 1 - 1 = k from rfl, sp_59, sp_bd, h11U, if_pos (show (if 0 ≤ ev_ishr c 2 ∧ ev_ishr c 2 < (M : Int) ∧ ev_ishr c 2 < 400 then (1 : Int) else 0) = 0 from if_neg z)]
        try dsimp only
        rw [v1, sp_bd]
      · rw [litF, if_neg z]
        exact v3
/-- the literal -/
def litR (k M : Nat) (S : ev_St) : List Int := litF k M S 1600 (if litV M (onlyC k M S (S.1 (k + 10) 0)) then S.1 (k + 6) (onlyC k M S (S.1 (k + 10) 0)).toNat else -1) [] []
theorem sp_40 (hQ : 2000 ≤ Q) (hk : ev_isOb k 5 = true) (hkr : 232 ≤ k) (ho : ev_isOb (k + 18) 10 = true) (hr : S.2.2.1 221 9 = k + 1) (h11 : S.1 k 11 = (M : Int)) : ∃ V, jm_40 Q S = some ((), V) ∧ FRt k S V ∧ RLt V (k + 18) (litR k M S) := by
  obtain ⟨l1, l2, l3, l4, l5, l6, l7, l8, l9⟩ := al_Pt hk
  have l10 := (al_B hk).1
  obtain ⟨U, hU⟩ : ∃ U, U = ev_pI (ev_pI S (k + 18) 1 0) 230 1 0 := ⟨_, rfl⟩
  have hf : FRt k S U := by
    rw [hU]
    exact ⟨fun x g y => by rw [sp_pI1, if_neg (by omega), sp_pI1, if_neg (by omega)], rfl⟩
  have f := FRt_k hf hkr
  have hrU : U.2.2.1 221 9 = k + 1 := by rw [f.2.2]; exact hr
  have h11U : U.1 k 11 = (M : Int) := by rw [f.2.1 11 (by omega)]; exact h11
  have r1 : RLt U 230 [] := ⟨by rw [hU, rd_eq]; rfl, by decide, fun i hi => absurd hi (Nat.not_lt_zero i)⟩
  have r2 : RLt U (k + 18) [] := ⟨by rw [hU, rd_nk (by omega), rd_eq]; rfl, by decide, fun i hi => absurd hi (Nat.not_lt_zero i)⟩
  have hl := fun c => litL (Q := Q) (S := S) (M := M) (by omega) hk hkr ho hr h11 1600 Q 0 c U [] [] (by omega) (by omega) hf r1 r2
  unfold litR
  obtain ⟨V, v1, v2, v3⟩ := hl (if litV M (onlyC k M S (S.1 (k + 10) 0)) then S.1 (k + 6) (onlyC k M S (S.1 (k + 10) 0)).toNat else -1)
  refine ⟨V, ?_, v2, v3⟩
  have eo : onlyC k M U (U.1 (k + 10) 0) = onlyC k M S (S.1 (k + 10) 0) := by rw [onlyC_c hf hkr, f.1 10 _ (by omega) (by omega)]
  unfold jm_40
  rw [sp_b, hr, sp_if (by omega), show k + 1 - 1 = k from rfl, sp_b, sp_b, ← hU, sp_b, hrU, sp_b, sp_if (by omega), show k + 1 - 1 = k from rfl]
  unfold jm_60
  rw [sp_if (by rw [l10]; decide), show Int.toNat 0 = 0 from rfl, sp_b, sp_bd, sp_if (by omega), sp_65 hk h11U, sp_bd, eo, sp_b, hrU, sp_if (by omega), show k + 1 - 1 = k from rfl, sp_59, sp_bd, h11U, sp_jn]
  by_cases z : litV M (onlyC k M S (S.1 (k + 10) 0))
  · rw [if_pos z] at v1
    rw [if_neg (show ¬ ((if 0 ≤ onlyC k M S (S.1 (k + 10) 0) ∧ onlyC k M S (S.1 (k + 10) 0) < (M : Int) ∧ onlyC k M S (S.1 (k + 10) 0) < 400 then (1 : Int) else 0) = 0) by rw [if_pos z]; decide), sp_b, hrU, sp_if (by omega), show k + 1 - 1 = k from rfl, sp_if (by rw [l6]; omega), sp_b, f.1 6 _ (by omega) (by omega)]
    exact v1
  · rw [if_neg z] at v1
    rw [if_pos (show (if 0 ≤ onlyC k M S (S.1 (k + 10) 0) ∧ onlyC k M S (S.1 (k + 10) 0) < (M : Int) ∧ onlyC k M S (S.1 (k + 10) 0) < 400 then (1 : Int) else 0) = 0 from if_neg z)]
    exact v1
end FACTL2
