/-! SEARCH: the reference goes on with what comes behind -/
section OPZI
variable {Q k p N M m n h vs ls w len v t : Nat} {φ ψ own up lo : Nat → Nat} {S T U : ev_St} {td nd x had dp fl : Int}
/-- the reference's numbers -/
def TN (T : ev_St) (td nd x had th dp : Int) (vs h ls n : Nat) (fl : Int) : Prop := (T.1 621 78 = td ∧ T.1 621 80 = nd ∧ T.1 621 81 = x ∧ T.1 621 82 = had ∧ T.1 621 83 = th ∧ T.1 621 84 = dp) ∧ (T.1 621 88 = (vs : Int) ∧ T.1 621 95 = (h : Int) ∧ T.1 621 105 = (ls : Int) ∧ T.1 621 75 = (n : Int) ∧ T.1 621 76 = fl)
/-- a frame is taken from the chain -/
def pPop (T : ev_St) (v : Nat) : ev_St := ev_pI (ev_pI T 621 83 (T.1 685 v)) 621 84 (T.1 686 v)
theorem pPop_N (hT : TN T td nd x had (v : Int) dp vs h ls n fl) : TN (pPop T v) td nd x had (T.1 685 v) (T.1 686 v) vs h ls n fl ∧ AR vs h ls T (pPop T v) := by
  obtain ⟨⟨a1, a2, a3, a4, a5, a6⟩, a7, a8, a9, a10, a11⟩ := hT
  exact ⟨⟨⟨a1, a2, a3, a4, rfl, rfl⟩, a7, a8, a9, a10, a11⟩, AR_i (AR_i AR_r (by omega)) (by omega)⟩
theorem t4_0 (hT : TN T td nd x had (v : Int) dp vs h ls n fl) (hv : v < 150000) (hk : T.1 681 v = 0) : ∃ T1, jm_304 Q T = some ((), T1) ∧ AR vs h ls T T1 ∧ TN T1 0 nd x had (T.1 685 v) (T.1 686 v) vs h ls n fl := by
  obtain ⟨⟨c1, c2⟩, ar⟩ := pPop_N hT
  refine ⟨ev_pI (pPop T v) 621 78 0, ?_, AR_i ar (by omega), ⟨rd_eq, c1.2⟩, c2⟩
  unfold jm_304
  rw [sp_b, hT.1.2.2.2.2.1, rdf (by omega) hv, rdf (by omega) hv, rdf (by omega) hv, rdf (by omega) hv, sp_b, rdf (by omega) hv, sp_b, hk, if_neg (by decide)]
  try dsimp only
  rw [sp_b]
  rfl
theorem t4_1 (hA : STA k p N M φ ψ own up lo U) (hB : BAS k p U w len S T) (hm : m < N) (hT : TN T td nd x had (v : Int) dp vs h ls n fl) (hv : v < 150000) (hs : vs < 150000) (hk : T.1 681 v = 1) (hd : T.1 682 v = ((320 * p + m : Nat) : Int)) : (U.1 627 (320 * p + m) = -1 ∧ ∃ T1, jm_304 Q T = some ((), T1) ∧ AR vs h ls T T1 ∧ TN T1 1 ((320 * p + m : Nat) : Int) x had (T.1 685 v) (T.1 686 v) vs h ls n fl) ∨ ∃ t : Nat, U.1 627 (320 * p + m) = (t : Int) ∧ ∃ T1, jm_304 Q T = some ((), T1) ∧ AR vs h ls T T1 ∧ TN T1 1 ((320 * p + m : Nat) : Int) x had (vs : Int) (T.1 686 v) (vs + 1) h ls n fl ∧ T1.1 681 vs = 1 ∧ T1.1 682 vs = ((320 * p + t : Nat) : Int) ∧ T1.1 685 vs = T.1 685 v ∧ T1.1 686 vs = T.1 686 v := by
  obtain ⟨⟨⟨c1, c2, c3, c4, c5, c6⟩, c7, c8, c9, c10, c11⟩, ar⟩ := pPop_N hT
  have hp := hA.2.2.1
  have hN := (sa_num hA).1.2.1
  have bX : BAS k p U w len S (pPop T v) := BAS_m hB (AC_r (us := 0) (h := h)) ar
  have st : jm_304 Q T = (ev_if ((0 : Int) ≤ ((320 * p + m : Nat) : Int) ∧ ((320 * p + m : Nat) : Int) < (ev_aln 627 : Int)) (ev_b ((pPop T v).1 627 (Int.toNat ((320 * p + m : Nat) : Int))) fun x66 => ev_jn (fun (s70 : ev_St) => ev_b (ev_pI s70 621 80 ((320 * p + m : Nat) : Int)) fun s71 => ev_b (ev_pI s71 621 78 1) fun s72 => some ((), s72)) fun K104 => if x66 = (-1) then (K104 (pPop T v)) else (ev_b ((pPop T v).1 621 79) fun x74 => ev_if ((0 : Int) ≤ ((320 * p + m : Nat) : Int) ∧ ((320 * p + m : Nat) : Int) < (ev_aln 627 : Int)) (ev_b ((pPop T v).1 627 (Int.toNat ((320 * p + m : Nat) : Int))) fun x75 => ev_ck (x74 + x75) fun x76 => ev_b ((pPop T v).1 621 83) fun x77 => ev_b ((pPop T v).1 621 84) fun x78 => ev_bd (jm_291 Q 1 x76 0 ((-1)) x77 x78 (pPop T v)) fun x80 s79 => ev_b (ev_pI s79 621 83 x80) fun s81 => K104 s81)))) := by
    unfold jm_304
    rw [sp_b, hT.1.2.2.2.2.1, rdf (by omega) hv, rdf (by omega) hv, rdf (by omega) hv, rdf (by omega) hv, sp_b, rdf (by omega) hv, sp_b, hk, hd, if_pos (by decide)]
    try dsimp only
    rw [if_neg (by decide)]
    rfl
  rw [rdT hA bX hm (by omega), sp_jn] at st
  rcases sa_next hA hm with ⟨y, _⟩ | ⟨t, y1, y2, y3, _⟩
  · refine Or.inl ⟨y, ev_pI (ev_pI (pPop T v) 621 80 ((320 * p + m : Nat) : Int)) 621 78 1, ?_, AR_i (AR_i ar (by omega)) (by omega), ⟨rd_eq, ?_, c3, c4, c5, c6⟩, c7, c8, c9, c10, c11⟩
    · rw [st, if_pos y]
      try dsimp only
      rw [sp_b, sp_b]
    · rw [rd_nf (by decide), rd_eq]
  · obtain ⟨X, hX⟩ : ∃ X, X = pFrm (pPop T v) vs 1 ((320 * p + t : Nat) : Int) 0 (-1) (T.1 685 v) (T.1 686 v) := ⟨_, rfl⟩
    obtain ⟨f1, f2, f3, f4, f5, f6, f7⟩ := pFrm_at (T := pPop T v) (u := vs) (k := 1) (nd := ((320 * p + t : Nat) : Int)) (v := 0) (had := -1) (nx := T.1 685 v) (dp := T.1 686 v)
    have fo : ∀ g, g ≠ 88 → X.1 621 g = (pPop T v).1 621 g := fun g y => by
      rw [hX]
      exact (pFrm_oth (by omega) (by omega)).1
    refine Or.inr ⟨t, y1, ev_pI (ev_pI (ev_pI X 621 83 (vs : Int)) 621 80 ((320 * p + m : Nat) : Int)) 621 78 1, ?_, ?_, ⟨⟨rd_eq, ?_, ?_, ?_, ?_, ?_⟩, ?_, ?_, ?_, ?_, ?_⟩, ?_, ?_, ?_, ?_⟩
    · rw [st, if_neg (by omega)]
      try dsimp only
      rw [sp_b, bX.2.2.2.1, rdT hA bX hm (by omega), y1, sp_ck (by omega), sp_b, sp_b, c5, c6, show ((320 * p : Nat) : Int) + (t : Int) = ((320 * p + t : Nat) : Int) from by omega, rf_frm c7 hs, ← hX, sp_bd, sp_b, sp_b, sp_b]
    · rw [hX]
      exact AR_i (AR_i (AR_i (AR_f ar (Nat.le_refl _)) (by omega)) (by omega)) (by omega)
    · rw [rd_nf (by decide), rd_eq]
    · rw [rd_nf (by decide), rd_nf (by decide), rd_nf (by decide), fo 81 (by decide)]
      exact c3
    · rw [rd_nf (by decide), rd_nf (by decide), rd_nf (by decide), fo 82 (by decide)]
      exact c4
    · rw [rd_nf (by decide), rd_nf (by decide), rd_eq]
    · rw [rd_nf (by decide), rd_nf (by decide), rd_nf (by decide), fo 84 (by decide)]
      exact c6
    · rw [rd_nf (by decide), rd_nf (by decide), rd_nf (by decide), hX]
      exact f7
    · rw [rd_nf (by decide), rd_nf (by decide), rd_nf (by decide), fo 95 (by decide)]
      exact c8
    · rw [rd_nf (by decide), rd_nf (by decide), rd_nf (by decide), fo 105 (by decide)]
      exact c9
    · rw [rd_nf (by decide), rd_nf (by decide), rd_nf (by decide), fo 75 (by decide)]
      exact c10
    · rw [rd_nf (by decide), rd_nf (by decide), rd_nf (by decide), fo 76 (by decide)]
      exact c11
    · rw [rd_nk (by decide), rd_nk (by decide), rd_nk (by decide), hX]
      exact f1
    · rw [rd_nk (by decide), rd_nk (by decide), rd_nk (by decide), hX]
      exact f2
    · rw [rd_nk (by decide), rd_nk (by decide), rd_nk (by decide), hX]
      exact f5
    · rw [rd_nk (by decide), rd_nk (by decide), rd_nk (by decide), hX]
      exact f6
theorem al_L7 : ev_aln 696 = 30000 ∧ ev_aln 697 = 30000 ∧ ev_aln 698 = 30000 ∧ ev_aln 699 = 30000 := by decide +kernel
theorem t4_2 {y : Int} (hA : STA k p N M φ ψ own up lo U) (hB : BAS k p U w len S T) (hm : m < N) (hT : TN T td nd x had (v : Int) dp vs h ls n fl) (hv : v < 150000) (hs : ls < 30000) (hk : T.1 681 v = 2) (hd : T.1 682 v = ((320 * p + m : Nat) : Int)) (hy : T.1 683 v = y) : ∃ T1, jm_304 Q T = some ((), T1) ∧ AR vs h ls T T1 ∧ TN T1 td nd x (ls : Int) (T.1 685 v) (T.1 686 v) vs h (ls + 1) n fl ∧ T1.1 696 ls = U.1 628 (320 * p + m) ∧ T1.1 697 ls = y ∧ T1.1 698 ls = x ∧ T1.1 699 ls = had := by
  obtain ⟨⟨⟨c1, c2, c3, c4, c5, c6⟩, c7, c8, c9, c10, c11⟩, ar⟩ := pPop_N hT
  have hp := hA.2.2.1
  have hN := (sa_num hA).1.2.1
  obtain ⟨l6, l7, l8, l9⟩ := al_L7
  have pp : ev_pI (ev_pI T 621 83 (T.1 685 v)) 621 84 ((ev_pI T 621 83 (T.1 685 v)).1 686 v) = pPop T v := rfl
  have bX : BAS k p U w len S (pPop T v) := BAS_m hB (AC_r (us := 0) (h := h)) ar
  obtain ⟨A, hA1⟩ : ∃ A, A = ev_pI (pPop T v) 696 ls (U.1 628 (320 * p + m)) := ⟨_, rfl⟩
  have a5 : A.1 621 105 = (ls : Int) := by
    rw [hA1]
    exact c9
  have a1 : A.1 621 81 = x := by
    rw [hA1]
    exact c3
  obtain ⟨B, hB1⟩ : ∃ B, B = ev_pI A 697 ls y := ⟨_, rfl⟩
  have b5 : B.1 621 105 = (ls : Int) := by
    rw [hB1]
    exact a5
  have b1 : B.1 621 81 = x := by
    rw [hB1]
    exact a1
  obtain ⟨C, hC1⟩ : ∃ C, C = ev_pI B 698 ls x := ⟨_, rfl⟩
  have e5 : C.1 621 105 = (ls : Int) := by
    rw [hC1]
    exact b5
  have e2 : C.1 621 82 = had := by
    rw [hC1, hB1, hA1]
    exact c4
  obtain ⟨D, hD1⟩ : ∃ D, D = ev_pI C 699 ls had := ⟨_, rfl⟩
  have d5 : D.1 621 105 = (ls : Int) := by
    rw [hD1]
    exact e5
  have dN : ∀ g, D.1 621 g = (pPop T v).1 621 g := fun g => by
    rw [hD1, hC1, hB1, hA1, rd_nk (by decide), rd_nk (by decide), rd_nk (by decide), rd_nk (by decide)]
  refine ⟨ev_pI (ev_pI D 621 82 (ls : Int)) 621 105 ((ls + 1 : Nat) : Int), ?_, ?_, ⟨⟨?_, ?_, ?_, ?_, ?_, ?_⟩, ?_, ?_, rd_eq, ?_, ?_⟩, ?_, ?_, ?_, ?_⟩
  · unfold jm_304
    rw [sp_b, hT.1.2.2.2.2.1, rdf (by omega) hv, rdf (by omega) hv, rdf (by omega) hv, rdf (by omega) hv, sp_b, rdf (by omega) hv, sp_b, hk, hd, hy, if_pos (by decide)]
    try dsimp only
    rw [if_pos (by decide)]
    try dsimp only
    rw [if_neg (by decide)]
    rw [pp]
    rw [sp_b, c9, rdT hA bX hm (by omega), sp_if (by omega), sp_b, Int.toNat_natCast]
    rw [← hA1, sp_b, a5, sp_if (by omega), sp_b, Int.toNat_natCast, ← hB1, sp_b, b5, sp_b, b1, sp_if (by omega), sp_b, Int.toNat_natCast, ← hC1, sp_b, e5, sp_b, e2, sp_if (by omega), sp_b, Int.toNat_natCast, ← hD1, sp_b, d5, sp_b, sp_b, rd_nf (by decide), d5, sp_ck (by omega), sp_b, show (ls : Int) + 1 = ((ls + 1 : Nat) : Int) from by omega]
  · rw [hD1, hC1, hB1, hA1]
    exact AR_i (AR_i (AR_w (AR_w (AR_w (AR_w ar (by omega)) (by omega)) (by omega)) (by omega)) (by omega)) (by omega)
  · rw [rd_nf (by decide), rd_nf (by decide), dN]
    exact c1
  · rw [rd_nf (by decide), rd_nf (by decide), dN]
    exact c2
  · rw [rd_nf (by decide), rd_nf (by decide), dN]
    exact c3
  · rw [rd_nf (by decide), rd_eq]
  · rw [rd_nf (by decide), rd_nf (by decide), dN]
    exact c5
  · rw [rd_nf (by decide), rd_nf (by decide), dN]
    exact c6
  · rw [rd_nf (by decide), rd_nf (by decide), dN]
    exact c7
  · rw [rd_nf (by decide), rd_nf (by decide), dN]
    exact c8
  · rw [rd_nf (by decide), rd_nf (by decide), dN]
    exact c10
  · rw [rd_nf (by decide), rd_nf (by decide), dN]
    exact c11
  · rw [rd_nk (by decide), rd_nk (by decide), hD1, rd_nk (by decide), hC1, rd_nk (by decide), hB1, rd_nk (by decide), hA1, rd_eq]
  · rw [rd_nk (by decide), rd_nk (by decide), hD1, rd_nk (by decide), hC1, rd_nk (by decide), hB1, rd_eq]
  · rw [rd_nk (by decide), rd_nk (by decide), hD1, rd_nk (by decide), hC1, rd_eq]
  · rw [rd_nk (by decide), rd_nk (by decide), hD1, rd_eq]
theorem t4_3 {a b : Nat} (hA : STA k p N M φ ψ own up lo U) (hB : BAS k p U w len S T) (hm : m < N) (hT : TN T td nd x had (v : Int) dp vs h ls n fl) (hv : v < 150000) (hk : T.1 681 v = 3) (hd : T.1 682 v = ((320 * p + m : Nat) : Int)) (hy : T.1 683 v = 256 * ((a : Int) + 1) + (b : Int)) (ha : a ≤ 100000) (hb : b ≤ 160) : ∃ T1, jm_304 Q T = some ((), T1) ∧ AR vs h ls T T1 ∧ TN T1 (if U.1 632 (320 * p + m) = -1 ∧ U.1 631 (320 * p + m) < (a : Int) + 1 ∧ x = (b : Int) then 5 else 6) ((320 * p + m : Nat) : Int) x had (T.1 685 v) (T.1 686 v) vs h ls n fl ∧ T1.1 621 85 = (a : Int) + 1 := by
  obtain ⟨⟨⟨c1, c2, c3, c4, c5, c6⟩, c7, c8, c9, c10, c11⟩, ar⟩ := pPop_N hT
  have pp : ev_pI (ev_pI T 621 83 (T.1 685 v)) 621 84 ((ev_pI T 621 83 (T.1 685 v)).1 686 v) = pPop T v := rfl
  obtain ⟨A, hA1⟩ : ∃ A, A = ev_pI (ev_pI (pPop T v) 621 85 ((a : Int) + 1)) 621 80 ((320 * p + m : Nat) : Int) := ⟨_, rfl⟩
  have arA : AR vs h ls T A := by
    rw [hA1]
    exact AR_i (AR_i ar (by omega)) (by omega)
  have bX : BAS k p U w len S A := BAS_m hB (AC_r (us := 0) (h := h)) arA
  have aN : ∀ g, g ≠ 85 → g ≠ 80 → A.1 621 g = (pPop T v).1 621 g := fun g y1 y2 => by rw [hA1, rd_nf y2, rd_nf y1]
  have a85 : A.1 621 85 = (a : Int) + 1 := by rw [hA1, rd_nf (by decide), rd_eq]
  obtain ⟨vv, hvv⟩ : ∃ vv : Int, vv = if U.1 632 (320 * p + m) = -1 ∧ U.1 631 (320 * p + m) < (a : Int) + 1 ∧ x = (b : Int) then 5 else 6 := ⟨_, rfl⟩
  refine ⟨ev_pI A 621 78 vv, ?_, AR_i arA (by omega), ⟨⟨by rw [← hvv]; exact rd_eq, ?_, ?_, ?_, ?_, ?_⟩, ?_, ?_, ?_, ?_, ?_⟩, ?_⟩
  · unfold jm_304
    rw [sp_b, hT.1.2.2.2.2.1, rdf (by omega) hv, rdf (by omega) hv, rdf (by omega) hv, rdf (by omega) hv, sp_b, rdf (by omega) hv, sp_b, hk, hd, hy, if_pos (by decide)]
    try dsimp only
    rw [if_pos (by decide)]
    try dsimp only
    rw [if_pos (by decide)]
    try dsimp only
    rw [if_neg (by decide)]
    try dsimp only
    rw [sp_if (by decide), sp_b, sp_div (by omega) (by omega), show (256 * ((a : Int) + 1) + (b : Int)) / 256 = (a : Int) + 1 from by omega, sp_b, sp_b]
    rw [pp, ← hA1, rdT hA bX hm (by omega)]
    by_cases z1 : U.1 632 (320 * p + m) = -1
    · rw [if_neg (fun y => y z1)]
      rw [sp_b, a85, rdT hA bX hm (by omega)]
      by_cases z2 : U.1 631 (320 * p + m) < (a : Int) + 1
      · rw [if_neg (by omega)]
        rw [sp_b, aN 81 (by decide) (by decide), c3, sp_if (by decide), sp_b, sp_rem (by omega) (by omega), show (256 * ((a : Int) + 1) + (b : Int)) % 256 = (b : Int) from by omega]
        by_cases z3 : x = (b : Int)
        · rw [if_neg (fun y => y z3)]
          try dsimp only
          rw [sp_b]
          rw [if_pos ⟨z1, z2, z3⟩] at hvv
          rw [hvv]
        · rw [if_pos z3]
          try dsimp only
          rw [sp_b]
          rw [if_neg (fun y => z3 y.2.2)] at hvv
          rw [hvv]
      · rw [if_pos (by omega)]
        try dsimp only
        rw [sp_b]
        rw [if_neg (fun y => z2 y.2.1)] at hvv
        rw [hvv]
    · rw [if_pos z1]
      try dsimp only
      rw [sp_b]
      rw [if_neg (fun y => z1 y.1)] at hvv
      rw [hvv]
  · rw [rd_nf (by decide), hA1, rd_eq]
  · rw [rd_nf (by decide), aN 81 (by decide) (by decide)]
    exact c3
  · rw [rd_nf (by decide), aN 82 (by decide) (by decide)]
    exact c4
  · rw [rd_nf (by decide), aN 83 (by decide) (by decide)]
    exact c5
  · rw [rd_nf (by decide), aN 84 (by decide) (by decide)]
    exact c6
  · rw [rd_nf (by decide), aN 88 (by decide) (by decide)]
    exact c7
  · rw [rd_nf (by decide), aN 95 (by decide) (by decide)]
    exact c8
  · rw [rd_nf (by decide), aN 105 (by decide) (by decide)]
    exact c9
  · rw [rd_nf (by decide), aN 75 (by decide) (by decide)]
    exact c10
  · rw [rd_nf (by decide), aN 76 (by decide) (by decide)]
    exact c11
  · rw [rd_nf (by decide)]
    exact a85
theorem t4_4 (hT : TN T td nd x had (v : Int) dp vs h ls n fl) (hv : v < 150000) (hk : T.1 681 v = 4) : ∃ T1, jm_304 Q T = some ((), T1) ∧ AR vs h ls T T1 ∧ TN T1 td nd x (T.1 684 v) (T.1 685 v) (T.1 686 v) vs h ls n fl := by
  obtain ⟨⟨⟨c1, c2, c3, c4, c5, c6⟩, c7, c8, c9, c10, c11⟩, ar⟩ := pPop_N hT
  refine ⟨ev_pI (pPop T v) 621 82 (T.1 684 v), ?_, AR_i ar (by omega), ⟨c1, c2, c3, rd_eq, c5, c6⟩, c7, c8, c9, c10, c11⟩
  unfold jm_304
  rw [sp_b, hT.1.2.2.2.2.1, rdf (by omega) hv, rdf (by omega) hv, rdf (by omega) hv, rdf (by omega) hv, sp_b, rdf (by omega) hv, sp_b, hk, if_pos (by decide)]
  try dsimp only
  rw [if_pos (by decide)]
  try dsimp only
  rw [if_pos (by decide)]
  try dsimp only
  rw [if_pos (by decide)]
  try dsimp only
  rw [if_neg (by decide)]
  try dsimp only
  rw [rdf (by omega) hv, sp_b]
  rfl
theorem t4_5 {y : Nat} (hT : TN T td nd x had (v : Int) dp vs h ls n fl) (hv : v < 150000) (hk : T.1 681 v = 5) (hy : T.1 683 v = (y : Int)) : ∃ T1, jm_304 Q T = some ((), T1) ∧ AR vs h ls T T1 ∧ TN T1 td nd x had (T.1 685 v) (T.1 686 v) vs y ls n fl := by
  obtain ⟨⟨⟨c1, c2, c3, c4, c5, c6⟩, c7, c8, c9, c10, c11⟩, ar⟩ := pPop_N hT
  refine ⟨ev_pI (pPop T v) 621 95 (y : Int), ?_, AR_i ar (by omega), ⟨c1, c2, c3, c4, c5, c6⟩, c7, rd_eq, c9, c10, c11⟩
  unfold jm_304
  rw [sp_b, hT.1.2.2.2.2.1, rdf (by omega) hv, rdf (by omega) hv, rdf (by omega) hv, rdf (by omega) hv, sp_b, rdf (by omega) hv, sp_b, hk, if_pos (by decide)]
  try dsimp only
  rw [if_pos (by decide)]
  try dsimp only
  rw [if_pos (by decide)]
  try dsimp only
  rw [if_pos (by decide)]
  try dsimp only
  rw [if_pos (by decide)]
  try dsimp only
  rw [if_neg (by decide)]
  try dsimp only
  rw [sp_b, hy]
  rfl
theorem t4_6 {y z : Nat} (hA : STA k p N M φ ψ own up lo U) (hB : BAS k p U w len S T) (hm : m < N) (hT : TN T td nd x had (v : Int) dp vs h ls n fl) (hv : v < 150000) (hk : T.1 681 v = 6 ∨ T.1 681 v = 7) (hd : T.1 682 v = ((320 * p + m : Nat) : Int)) (hy : T.1 683 v = (y : Int)) (hy2 : y < 100000) (hz : T.1 690 y = (z : Int)) : (T.1 681 v = 7 ∧ x ≠ (z : Int) ∧ ∃ T1, jm_304 Q T = some ((), T1) ∧ AR vs h ls T T1 ∧ TN T1 5 nd x had (T.1 685 v) (T.1 686 v) vs h ls n fl) ∨ ((T.1 681 v = 7 → x = (z : Int)) ∧ ∃ T1, jm_304 Q T = some ((), T1) ∧ AR vs h ls T T1 ∧ TN T1 (if U.1 629 (320 * p + m) ≤ 0 then 4 else 5) nd (z : Int) had (T.1 685 v) (T.1 686 v) vs y ls n fl) := by
  obtain ⟨⟨⟨c1, c2, c3, c4, c5, c6⟩, c7, c8, c9, c10, c11⟩, ar⟩ := pPop_N hT
  have st : jm_304 Q T = (ev_jn (fun (s19 : ev_St) => ev_b (ev_pI s19 621 95 (y : Int)) fun s20 => ev_if ((0 : Int) ≤ (y : Int) ∧ (y : Int) < (ev_aln 690 : Int)) (ev_b (s20.1 690 (Int.toNat (y : Int))) fun x21 => ev_b (ev_pI s20 621 81 x21) fun s22 => ev_if ((0 : Int) ≤ ((320 * p + m : Nat) : Int) ∧ ((320 * p + m : Nat) : Int) < (ev_aln 629 : Int)) (ev_b (s22.1 629 (Int.toNat ((320 * p + m : Nat) : Int))) fun x23 => if x23 ≤ 0 then (ev_b (ev_pI s22 621 78 4) fun s25 => some ((), s25)) else (ev_b (ev_pI s22 621 78 5) fun s26 => some ((), s26))))) fun K316 => if T.1 681 v = 6 then (K316 (pPop T v)) else (ev_b ((pPop T v).1 621 81) fun x28 => ev_if ((0 : Int) ≤ (y : Int) ∧ (y : Int) < (ev_aln 690 : Int)) (ev_b ((pPop T v).1 690 (Int.toNat (y : Int))) fun x29 => if x28 ≠ x29 then (ev_b (ev_pI (pPop T v) 621 78 5) fun s31 => some ((), s31)) else (K316 (pPop T v))))) := by
    unfold jm_304
    rw [sp_b, hT.1.2.2.2.2.1, rdf (by omega) hv, rdf (by omega) hv, rdf (by omega) hv, rdf (by omega) hv, sp_b, rdf (by omega) hv, sp_b, hd, hy, if_pos (by omega)]
    try dsimp only
    rw [if_pos (by omega)]
    try dsimp only
    rw [if_pos (by omega)]
    try dsimp only
    rw [if_pos (by omega)]
    try dsimp only
    rw [if_pos (by omega)]
    try dsimp only
    rw [if_pos (by omega)]
    rfl
  have pz : (pPop T v).1 690 y = (z : Int) := hz
  by_cases q : T.1 681 v = 7 ∧ x ≠ (z : Int)
  · refine Or.inl ⟨q.1, q.2, ev_pI (pPop T v) 621 78 5, ?_, AR_i ar (by omega), ⟨rd_eq, c2, c3, c4, c5, c6⟩, c7, c8, c9, c10, c11⟩
    rw [st, sp_jn, if_neg (by omega)]
    try dsimp only
    rw [sp_b, c3, rdh (by omega) hy2, pz, if_pos q.2]
    try dsimp only
    rw [sp_b]
  · have q2 : T.1 681 v = 7 → x = (z : Int) := fun y1 => Classical.byContradiction fun y2 => q ⟨y1, y2⟩
    obtain ⟨A, hA1⟩ : ∃ A, A = ev_pI (pPop T v) 621 95 (y : Int) := ⟨_, rfl⟩
    have az : A.1 690 y = (z : Int) := by
      rw [hA1, rd_nk (by decide)]
      exact pz
    obtain ⟨B, hB1⟩ : ∃ B, B = ev_pI A 621 81 (z : Int) := ⟨_, rfl⟩
    have arB : AR vs h ls T B := by
      rw [hB1, hA1]
      exact AR_i (AR_i ar (by omega)) (by omega)
    have bX : BAS k p U w len S B := BAS_m hB (AC_r (us := 0) (h := h)) arB
    refine Or.inr ⟨q2, ev_pI B 621 78 (if U.1 629 (320 * p + m) ≤ 0 then 4 else 5), ?_, AR_i arB (by omega), ⟨rd_eq, ?_, ?_, ?_, ?_, ?_⟩, ?_, ?_, ?_, ?_, ?_⟩
    · have tl : ((fun (s19 : ev_St) => ev_b (ev_pI s19 621 95 (y : Int)) fun s20 => ev_if ((0 : Int) ≤ (y : Int) ∧ (y : Int) < (ev_aln 690 : Int)) (ev_b (s20.1 690 (Int.toNat (y : Int))) fun x21 => ev_b (ev_pI s20 621 81 x21) fun s22 => ev_if ((0 : Int) ≤ ((320 * p + m : Nat) : Int) ∧ ((320 * p + m : Nat) : Int) < (ev_aln 629 : Int)) (ev_b (s22.1 629 (Int.toNat ((320 * p + m : Nat) : Int))) fun x23 => if x23 ≤ 0 then (ev_b (ev_pI s22 621 78 4) fun s25 => some ((), s25)) else (ev_b (ev_pI s22 621 78 5) fun s26 => some ((), s26))))) (pPop T v)) = some ((), ev_pI B 621 78 (if U.1 629 (320 * p + m) ≤ 0 then 4 else 5)) := by
        try dsimp only
        rw [sp_b, ← hA1, rdh (by omega) hy2, az, sp_b, ← hB1, rdT hA bX hm (by omega)]
        by_cases y1 : U.1 629 (320 * p + m) ≤ 0
        · rw [if_pos y1]
          try dsimp only
          rw [if_pos y1]
          try dsimp only
          rw [sp_b]
        · rw [if_neg y1]
          try dsimp only
          rw [if_neg y1]
          try dsimp only
          rw [sp_b]
      rw [st, sp_jn]
      by_cases y1 : T.1 681 v = 6
      · rw [if_pos y1]
        exact tl
      · rw [if_neg y1]
        try dsimp only
        rw [sp_b, c3, rdh (by omega) hy2, pz, if_neg (fun y2 => y2 (q2 (by omega)))]
        exact tl
    · rw [hB1, hA1]
      exact c2
    · rw [rd_nf (by decide), hB1, rd_eq]
    · rw [hB1, hA1]
      exact c4
    · rw [hB1, hA1]
      exact c5
    · rw [hB1, hA1]
      exact c6
    · rw [hB1, hA1]
      exact c7
    · rw [hB1, hA1]
      rfl
    · rw [hB1, hA1]
      exact c9
    · rw [hB1, hA1]
      exact c10
    · rw [hB1, hA1]
      exact c11
end OPZI
