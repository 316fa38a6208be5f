/-! FACTS: the class's parts; a node's beginning -/
section FACTC3
variable {Q k b e : Nat} {S V W : ev_St}
/-- one row more of a part: how many, fewest signs and sum, sets -/
def partF (K : Int) (v : Int × FV) (w : FV) : Int × FV := (v.1 + 1, if w.1 < v.2.1 then w.1 else v.2.1, v.2.2.1 + (w.2.1 + (if v.1 + 1 ≤ 1 then 0 else 2)), fun c => v.2.2.2.1 c ∨ (K < 20 ∧ w.2.2.1 c), fun c => v.2.2.2.2.1 c ∨ (K < 20 ∧ w.2.2.2.1 c), fun c => v.2.2.2.2.2.1 c ∨ (K < 19 ∧ w.2.2.2.2.1 c), fun c => v.2.2.2.2.2.2 c ∨ (K < 19 ∧ w.2.2.2.2.2 c))
theorem sp_63 {K : Int} : jm_63 Q K S = some (if K < 20 then 0 else 1, S) := by
  unfold jm_63
  split <;> rfl
theorem st34_136 {K sum : Int} {F J I A F' J' I' A' : Int → Prop} (hb : b < 400) (he : e < 400) (hbe : e ≠ b) (hs : SET4 b S F J I A) (hs' : SET4 e S F' J' I' A') : ∃ V, (∀ JJ : Int → ev_St → Option (Unit × ev_St), ev_jn JJ (fun K136 => if (if K < 20 then (0:Int) else 1) ≠ 0 then (K136 sum S) else (ev_bd (jm_37 Q ((224 + 1)) (b:Int) ((224 + 1)) (e:Int) S) fun _ s136 => ev_bd (jm_37 Q ((225 + 1)) (b:Int) ((225 + 1)) (e:Int) s136) fun _ s137 => K136 sum s137)) = JJ sum V) ∧ FRc b S V ∧ SET4 b V (fun c => F c ∨ (K < 20 ∧ F' c)) (fun c => J c ∨ (K < 20 ∧ J' c)) I A := by
  by_cases h : K < 20
  · have f1 : FRc b S (uni S 224 b 224 e) := FRc_p (by omega)
    have f2 : FRc b (uni S 224 b 224 e) (uni (uni S 224 b 224 e) 225 b 225 e) := FRc_p (by omega)
    refine ⟨_, fun JJ => by rw [sp_jn, if_pos h, if_neg (by decide), sp_37 (by omega) hb (by omega) he, sp_bd, sp_37 (by omega) hb (by omega) he, sp_bd], FRc_t f1 f2, fun c => ?_⟩
    obtain ⟨a1, a2, a3, a4⟩ := hs c
    obtain ⟨b1, b2, b3, b4⟩ := hs' c
    rw [uni_cm, uni_cm, uni_cm, uni_cm, uni_cm, uni_cm, uni_cm, uni_cm, FRc_e f1 hbe, a1, a2, a3, a4, b1, b2]
    simp [h]
  · refine ⟨S, fun JJ => by rw [sp_jn, if_neg h, if_pos (by decide)], FRc_r, fun c => ?_⟩
    obtain ⟨a1, a2, a3, a4⟩ := hs c
    simp [h, a1, a2, a3, a4]
theorem st34_170 {K : Int} {F J I A F' J' I' A' : Int → Prop} (hb : b < 400) (he : e < 400) (hbe : e ≠ b) (hs : SET4 b S F J I A) (hs' : SET4 e S F' J' I' A') : ∃ V, (∀ JJ : ev_St → Option (Unit × ev_St), ev_jn JJ (fun K170 => if 19 ≤ K then (K170  S) else (ev_bd (jm_37 Q ((226 + 1)) (b:Int) ((226 + 1)) (e:Int) S) fun _ s133 => ev_bd (jm_37 Q ((227 + 1)) (b:Int) ((227 + 1)) (e:Int) s133) fun _ s134 => K170  s134)) = JJ V) ∧ FRc b S V ∧ SET4 b V F J (fun c => I c ∨ (K < 19 ∧ I' c)) (fun c => A c ∨ (K < 19 ∧ A' c)) := by
  by_cases h : K < 19
  · have f1 : FRc b S (uni S 226 b 226 e) := FRc_p (by omega)
    have f2 : FRc b (uni S 226 b 226 e) (uni (uni S 226 b 226 e) 227 b 227 e) := FRc_p (by omega)
    refine ⟨_, fun JJ => by rw [sp_jn, if_neg (by omega), sp_37 (by omega) hb (by omega) he, sp_bd, sp_37 (by omega) hb (by omega) he, sp_bd], FRc_t f1 f2, fun c => ?_⟩
    obtain ⟨a1, a2, a3, a4⟩ := hs c
    obtain ⟨b1, b2, b3, b4⟩ := hs' c
    rw [uni_cm, uni_cm, uni_cm, uni_cm, uni_cm, uni_cm, uni_cm, uni_cm, FRc_e f1 hbe, a1, a2, a3, a4, b3, b4]
    simp [h]
  · refine ⟨S, fun JJ => by rw [sp_jn, if_pos (by omega)], FRc_r, fun c => ?_⟩
    obtain ⟨a1, a2, a3, a4⟩ := hs c
    simp [h, a1, a2, a3, a4]
theorem part_step {K : Int} {K43 : Int → Int → Int → Int → Int → ev_St → Option (Unit × ev_St)} {i : Nat} {v : Int × FV} {w : FV} (hr : S.2.2.1 221 9 = k + 1) (hal : ev_aln (k + 5) = 400) (h11 : (e : Int) < S.1 k 11) (hb : b < 400) (he : e < 400) (hbe : e ≠ b) (hi : i < 400) (hv : SET4 b S v.2.2.2.1 v.2.2.2.2.1 v.2.2.2.2.2.1 v.2.2.2.2.2.2) (hw : VAL e S w) (r0 : 0 ≤ v.1 ∧ v.1 ≤ 1000) (r1 : fcv v.2.1 ∧ 0 ≤ v.2.2.1 ∧ v.2.2.1 ≤ 1000000000) (r2 : fcv w.1 ∧ fcv w.2.1) : ∃ V, jb_34_43 Q (b : Int) K K43 (e : Int) v.1 v.2.1 v.2.2.1 (i : Int) S = K43 (S.1 (k + 5) e) (partF K v w).1 (partF K v w).2.1 (partF K v w).2.2.1 ((i : Int) + 1) V ∧ FRc b S V ∧ SET4 b V (partF K v w).2.2.2.1 (partF K v w).2.2.2.2.1 (partF K v w).2.2.2.2.2.1 (partF K v w).2.2.2.2.2.2 := by
  obtain ⟨l22, l23, _⟩ := al_G
  obtain ⟨w1, w2, w3⟩ := hw
  unfold fcv at r1 r2
  obtain ⟨V1, a1, a2, a3⟩ := st34_136 (Q := Q) (K := K) (sum := v.2.2.1 + (w.2.1 + (if v.1 + 1 ≤ 1 then 0 else 2))) hb he hbe hv w3
  have e1 : ∀ a c, cm V1 a e c ↔ cm S a e c := fun a c => FRc_e a2 hbe
  obtain ⟨V2, b1, b2, b3⟩ := st34_170 (Q := Q) (K := K) (F' := w.2.2.1) (J' := w.2.2.2.1) (I' := w.2.2.2.2.1) (A' := w.2.2.2.2.2) hb he hbe a3 (fun c => by rw [e1, e1, e1, e1]; exact w3 c)
  have f := FRc_t a2 b2
  refine ⟨V2, ?_, f, b3⟩
  have tl : ∀ x93 : Int, x93 = (if v.1 + 1 ≤ 1 then 0 else 2) → (ev_ck (w.2.1 + x93) fun x103 => ev_ck (v.2.2.1 + x103) fun x104 => ev_bd (jm_63 Q K S) fun x106 s105 => ev_jn (fun (x107 : Int) (s117 : ev_St) => ev_jn (fun (s127 : ev_St) => ev_b (s127.2.2.1 221 9) fun r128 => ev_if (r128 ≠ 0) (ev_if ((0 : Int) ≤ (e : Int) ∧ (e : Int) < (ev_aln (((r128 - 1) + 5)) : Int)) (ev_b (s127.1 (((r128 - 1) + 5)) (Int.toNat (e : Int))) fun x130 => ev_ck ((i : Int) + 1) fun x131 => K43 x130 (v.1 + 1) (if w.1 < v.2.1 then w.1 else v.2.1) x107 x131 s127))) fun K170 => if 19 ≤ K then (K170  s117) else (ev_bd (jm_37 Q ((226 + 1)) (b:Int) ((226 + 1)) (e:Int) s117) fun _ s133 => ev_bd (jm_37 Q ((227 + 1)) (b:Int) ((227 + 1)) (e:Int) s133) fun _ s134 => K170  s134)) fun K136 => if x106 ≠ 0 then (K136 x104 s105) else (ev_bd (jm_37 Q ((224 + 1)) (b:Int) ((224 + 1)) (e:Int) s105) fun _ s136 => ev_bd (jm_37 Q ((225 + 1)) (b:Int) ((225 + 1)) (e:Int) s136) fun _ s137 => K136 x104 s137)) = K43 (S.1 (k + 5) e) (partF K v w).1 (partF K v w).2.1 (partF K v w).2.2.1 ((i : Int) + 1) V2 := fun x93 h93 => by
    have h93' : x93 = 0 ∨ x93 = 2 := by
      rw [h93]
      split <;> omega
    rw [sp_ck (by omega), sp_ck (by omega), sp_63, sp_bd, h93, a1]
    try dsimp only
    rw [b1]
    try dsimp only
    rw [sp_b, f.2.1, hr, sp_if (by omega), show k + 1 - 1 = k from rfl, sp_if (by rw [hal]; omega), sp_b, f.1, Int.toNat_natCast, sp_ck (by omega)]
    rfl
  unfold jb_34_43
  rw [sp_jn, if_neg (by omega), sp_b, hr, sp_if (by omega), show k + 1 - 1 = k from rfl, sp_59, sp_bd, if_neg (show ¬ ((if 0 ≤ (e : Int) ∧ (e : Int) < S.1 k 11 ∧ (e : Int) < 400 then (1 : Int) else 0) = 0) by rw [if_pos ⟨by omega, h11, by omega⟩]; decide), sp_ck (by omega), sp_if (by rw [l22]; omega), sp_b, Int.toNat_natCast, w1, sp_b, sp_imin2 (by omega) (by omega), sp_if (by rw [l23]; omega), sp_b, w2, sp_jn]
  by_cases z : v.1 + 1 ≤ 1
  · rw [if_pos z]
    try dsimp only
    exact tl 0 (by rw [if_pos z])
  · rw [if_neg z]
    try dsimp only
    exact tl 2 (by rw [if_neg z])
/-- what a part comes to -/
def partE (K : Int) (v : Int × FV) : FV := (if 20 ≤ K ∨ (K = 8 ∧ v.1 < 2) then 0 else v.2.1, mlC v.2.2.1, v.2.2.2)
theorem part_end {K : Int} {K43 : Int → Int → Int → Int → Int → ev_St → Option (Unit × ev_St)} {i : Nat} {v : Int × FV} (hr : S.2.2.1 221 9 = k + 1) (hb : b < 400) (hi : i < 400) (hv : SET4 b S v.2.2.2.1 v.2.2.2.2.1 v.2.2.2.2.2.1 v.2.2.2.2.2.2) (r1 : 0 ≤ v.2.2.1 ∧ v.2.2.1 ≤ 1000000000) : ∃ V, jb_34_43 Q (b : Int) K K43 (-1) v.1 v.2.1 v.2.2.1 (i : Int) S = some ((), V) ∧ FRn b S V ∧ VAL b V (partE K v) := by
  obtain ⟨l22, l23, _⟩ := al_G
  obtain ⟨x, hx⟩ : ∃ x, x = (if 20 ≤ K ∨ (K = 8 ∧ v.1 < 2) then 0 else v.2.1) := ⟨_, rfl⟩
  refine ⟨ev_pI (ev_pI S 222 b x) 223 b (mlC v.2.2.1), ?_, FRn_t (FRn_p (Or.inl rfl)) (FRn_p (Or.inr rfl)), ?_, ?_, fun c => ?_⟩
  · have tl : ∀ x45 : Int, x45 = (if 20 ≤ K ∨ (K = 8 ∧ v.1 < 2) then 1 else 0) → (ev_jn (fun (x54 : Int) (x53 : Int) (r52 : Nat) (s59 : ev_St) => ev_if ((0 : Int) ≤ x53 ∧ x53 < (ev_aln r52 : Int)) (ev_b (ev_pI s59 r52 (Int.toNat x53) x54) fun s60 => ev_b (ev_imin 1000000 v.2.2.1) fun x61 => ev_if ((0 : Int) ≤ (b : Int) ∧ (b : Int) < (ev_aln 223 : Int)) (ev_b (ev_pI s60 223 (Int.toNat (b : Int)) x61) fun s62 => some ((), s62)))) fun K228 => if x45 = 0 then (K228 v.2.1 (b : Int) 222 S) else (K228 0 (b : Int) 222 S)) = some ((), ev_pI (ev_pI S 222 b x) 223 b (mlC v.2.2.1)) := fun x45 h => by
      rw [sp_jn]
      by_cases z : 20 ≤ K ∨ (K = 8 ∧ v.1 < 2)
      · rw [if_pos z] at h hx
        rw [if_neg (by omega)]
        try dsimp only
        rw [sp_if (by rw [l22]; omega), sp_b, sp_b, sp_imin (by omega), sp_if (by rw [l23]; omega), sp_b, Int.toNat_natCast, hx]
      · rw [if_neg z] at h hx
        rw [if_pos (by omega)]
        try dsimp only
        rw [sp_if (by rw [l22]; omega), sp_b, sp_b, sp_imin (by omega), sp_if (by rw [l23]; omega), sp_b, Int.toNat_natCast, hx]
    unfold jb_34_43
    rw [sp_jn, if_neg (by omega), sp_b, hr, sp_if (by omega), show k + 1 - 1 = k from rfl, sp_59, sp_bd, if_pos (show (if (0 : Int) ≤ -1 ∧ -1 < S.1 k 11 ∧ (-1 : Int) < 400 then (1 : Int) else 0) = 0 from if_neg (by omega))]
    try dsimp only
    rw [sp_63, sp_bd, sp_jn, sp_jn]
    by_cases z : K < 20
    · rw [if_pos z, if_neg (by decide), sp_jn]
      by_cases z8 : K = 8
      · rw [if_neg (by omega)]
        by_cases zr : 2 ≤ v.1
        · rw [if_pos zr]
          try dsimp only
          exact tl 0 (by rw [if_neg (by omega)])
        · rw [if_neg zr]
          try dsimp only
          exact tl 1 (by rw [if_pos (by omega)])
      · rw [if_pos z8]
        try dsimp only
        exact tl 0 (by rw [if_neg (by omega)])
    · rw [if_neg z, if_pos (by decide)]
      try dsimp only
      exact tl 1 (by rw [if_pos (by omega)])
  · rw [rd_nk (by omega), rd_eq, hx]
    rfl
  · rw [rd_eq]
    rfl
  · exact hv c
theorem jm31_0 (hb : b < 400) : ∃ V, (∀ JJ : ev_St → Option (Unit × ev_St), (ev_if ((0 : Int) ≤ (b : Int) ∧ (b : Int) < (ev_aln 222 : Int)) (ev_b (ev_pI S 222 (Int.toNat (b : Int)) 0) fun s1 => ev_if ((0 : Int) ≤ (b : Int) ∧ (b : Int) < (ev_aln 223 : Int)) (ev_b (ev_pI s1 223 (Int.toNat (b : Int)) 0) fun s2 => ev_bd (jm_35 Q ((224 + 1)) (b : Int) s2) fun _ s3 => ev_bd (jm_35 Q ((225 + 1)) (b : Int) s3) fun _ s4 => ev_bd (jm_35 Q ((226 + 1)) (b : Int) s4) fun _ s5 => ev_bd (jm_35 Q ((227 + 1)) (b : Int) s5) fun _ s6 => JJ s6))) = JJ V) ∧ FRn b S V ∧ VAL b V zFV := by
  obtain ⟨l22, l23, _⟩ := al_G
  refine ⟨_, fun JJ => by rw [sp_if (by rw [l22]; omega), sp_b, sp_if (by rw [l23]; omega), sp_b, Int.toNat_natCast, sp_35 (by omega) hb, sp_bd, sp_35 (by omega) hb, sp_bd, sp_35 (by omega) hb, sp_bd, sp_35 (by omega) hb, sp_bd], FRn_t (FRn_p (Or.inl rfl)) (FRn_t (FRn_p (Or.inr rfl)) (FRn_of (FRc_t (FRc_p (by omega)) (FRc_t (FRc_p (by omega)) (FRc_t (FRc_p (by omega)) (FRc_p (by omega))))))), ?_, ?_, fun c => ?_⟩
  · show (ev_pI (ev_pI S 222 b 0) 223 b 0).1 222 b = 0
    rw [rd_nk (by omega), rd_eq]
  · show (ev_pI (ev_pI S 222 b 0) 223 b 0).1 223 b = 0
    rw [rd_eq]
  · rw [put2_cm, put2_cm, put2_cm, put2_cm, put2_cm, put2_cm, put2_cm, put2_cm, put2_cm, put2_cm, put2_cm, put2_cm, put2_cm, put2_cm, put2_cm, put2_cm]
    simp [cs_0, zFV]
end FACTC3
