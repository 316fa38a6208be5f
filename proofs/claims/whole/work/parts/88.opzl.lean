/-! SEARCH: rounds of a repeat, each machine by itself -/
section OPZL
variable {Q k p N M m n h us u w len b vs ls r v : Nat} {φ ψ own up lo : Nat → Nat} {S S1 S2 T T1 U : ev_St} {c x f g x0 td nd had th dp fl y a : Int}
/-- a choice as the class lays it -/
def CHC (S1 : ev_St) (h : Nat) (kd cd x fr g : Int) (us : Nat) : Prop := S1.1 283 (6 * h) = kd ∧ S1.1 283 (6 * h + 1) = cd ∧ S1.1 283 (6 * h + 2) = x ∧ S1.1 283 (6 * h + 3) = fr ∧ S1.1 283 (6 * h + 4) = g ∧ S1.1 283 (6 * h + 5) = (us : Int)
theorem CHC_c (q : CHC S h y c x f g us) (ha : AC u (h + 1) S S1) : CHC S1 h y c x f g us := by
  obtain ⟨q1, q2, q3, q4, q5, q6⟩ := q
  exact ⟨by rw [ha.2.1 _ (by omega)]; exact q1, by rw [ha.2.1 _ (by omega)]; exact q2, by rw [ha.2.1 _ (by omega)]; exact q3, by rw [ha.2.1 _ (by omega)]; exact q4, by rw [ha.2.1 _ (by omega)]; exact q5, by rw [ha.2.1 _ (by omega)]; exact q6⟩
theorem k_chc (hN : CN S c x f g us h n x0) (hh : h + 1 ≤ 1002) : ∃ S1, jm_130 Q y a th S = some ((), S1) ∧ AC us h S S1 ∧ CN S1 c x f g us (h + 1) n x0 ∧ CHC S1 h y a x th g us := by
  obtain ⟨⟨n2, n3, n4, n5⟩, n7, n9, n10, n14, n11⟩ := hN
  obtain ⟨c1, c2, c3, c4, c5, c6, c7⟩ := pChc_at (S := S) (h := h) (kd := y) (cd := a) (fr := th)
  have o : ∀ g, g ≠ 9 → (pChc S h y a th).1 281 g = S.1 281 g := fun g z => (pChc_oth (by decide) (by omega)).1
  exact ⟨pChc S h y a th, cs_chc n9 hh, AC_h AC_r (Nat.le_refl h), ⟨⟨by rw [o _ (by decide)]; exact n2, by rw [o _ (by decide)]; exact n3, by rw [o _ (by decide)]; exact n4, by rw [o _ (by decide)]; exact n5⟩, by rw [o _ (by decide)]; exact n7, c7, by rw [o _ (by decide)]; exact n10, by rw [o _ (by decide)]; exact n14, by rw [o _ (by decide)]; exact n11⟩, c1, c2, by rw [c3, n3], c4, by rw [c5, n5], by rw [c6, n7]⟩
theorem CN_2 (hN : CN S c x f g us h n x0) : CN (ev_pI S 281 2 y) y x f g us h n x0 := ⟨⟨rfl, hN.1.2⟩, hN.2⟩
theorem CN_3 (hN : CN S c x f g us h n x0) : CN (ev_pI S 281 3 y) c y f g us h n x0 := ⟨⟨hN.1.1, rfl, hN.1.2.2⟩, hN.2⟩
theorem CN_4 (hN : CN S c x f g us h n x0) : CN (ev_pI S 281 4 y) c x y g us h n x0 := ⟨⟨hN.1.1, hN.1.2.1, rfl, hN.1.2.2.2⟩, hN.2⟩
theorem CN_5 (hN : CN S c x f g us h n x0) : CN (ev_pI S 281 5 y) c x f y us h n x0 := ⟨⟨hN.1.1, hN.1.2.1, hN.1.2.2.1, rfl⟩, hN.2⟩
theorem CN_14 (hN : CN S c x f g us h n x0) : CN (ev_pI S 281 14 ((n + 1 : Nat) : Int)) c x f g us h (n + 1) x0 := ⟨hN.1, hN.2.1, hN.2.2.1, hN.2.2.2.1, rfl, hN.2.2.2.2.2⟩
theorem g_rnd (hA : STA k p N M φ ψ own up lo U) (hB : BAS k p U w len S T) (hb : b < M) (hN : CN S c x (u : Int) g us h n x0) (hu : u + 4 ≤ us) (hs : us ≤ 76072) (hh : h + 1 ≤ 1002) (hk : U.1 (k + 1) b = 13 ∨ U.1 (k + 1) b = 14) (h2 : S.1 282 (u + 2) = (r : Int)) : ((r : Int) < U.1 (k + 2) b → ∃ S1, jm_143 Q (b : Int) S = some (1, S1) ∧ AC us h S S1 ∧ CN S1 (4 * (b : Int) + 2) x (u : Int) g us h n x0) ∧ (U.1 (k + 2) b ≤ (r : Int) → U.1 (k + 3) b ≠ -1 → U.1 (k + 3) b ≤ (r : Int) → ∃ S1, jm_143 Q (b : Int) S = some (1, S1) ∧ AC us h S S1 ∧ CN S1 (U.1 (k + 7) b) x (S.1 282 u) g us h n x0) ∧ (U.1 (k + 2) b ≤ (r : Int) → (U.1 (k + 3) b = -1 ∨ (r : Int) < U.1 (k + 3) b) → U.1 (k + 1) b = 13 → ∃ S1, jm_143 Q (b : Int) S = some (1, S1) ∧ AC us h S S1 ∧ CN S1 (4 * (b : Int) + 2) x (u : Int) g us (h + 1) n x0 ∧ CHC S1 h 0 (U.1 (k + 7) b) x (S.1 282 u) g us) ∧ (U.1 (k + 2) b ≤ (r : Int) → (U.1 (k + 3) b = -1 ∨ (r : Int) < U.1 (k + 3) b) → U.1 (k + 1) b = 14 → ∃ S1, jm_143 Q (b : Int) S = some (1, S1) ∧ AC us h S S1 ∧ CN S1 (U.1 (k + 7) b) x (S.1 282 u) g us (h + 1) n x0 ∧ CHC S1 h 0 (4 * (b : Int) + 2) x (u : Int) g us) := by
  have hM := (sa_num hA).1.2.2
  have n4 := hN.1.2.2.1
  have n7 := hN.2.1
  have bX : ∀ Z, AC us h S Z → BAS k p U w len Z T := fun Z q => BAS_m hB q (AR_r (vs := 0) (h := h) (ls := 0))
  refine ⟨fun z1 => ?_, fun z1 z2 z3 => ?_, fun z1 z2 z3 => ?_, fun z1 z2 z3 => ?_⟩
  · refine ⟨_, ?_, AC_i AC_r, CN_2 hN⟩
    unfold jm_143
    rw [sp_b, n4, (cs_is n7 hs).2 (by omega) (by omega), sp_bd, if_pos (by decide)]
    try dsimp only
    rw [sp_b, n4, rdc2 (by omega), sp_b, rdc0 (by omega), rdk (j := 3) hA hB hb (by omega), rdk (j := 2) hA hB hb (by omega), h2, if_neg (by omega)]
    try dsimp only
    rw [sp_ck (by omega), sp_ck (by omega), sp_b]
  · obtain ⟨X, hX⟩ : ∃ X, X = ev_pI S 281 4 (S.1 282 u) := ⟨_, rfl⟩
    have aX : AC us h S X := by
      rw [hX]
      exact AC_i AC_r
    have cX : CN X c x (S.1 282 u) g us h n x0 := by
      rw [hX]
      exact CN_4 hN
    refine ⟨_, ?_, AC_i aX, CN_2 cX⟩
    unfold jm_143
    rw [sp_b, n4, (cs_is n7 hs).2 (by omega) (by omega), sp_bd, if_pos (by decide)]
    try dsimp only
    rw [sp_b, n4, rdc2 (by omega), sp_b, rdc0 (by omega), rdk (j := 3) hA hB hb (by omega), rdk (j := 2) hA hB hb (by omega), h2, if_pos z1]
    try dsimp only
    rw [sp_jn, if_neg z2]
    try dsimp only
    rw [if_neg (by omega)]
    try dsimp only
    rw [sp_b, ← hX, rdk (j := 7) hA (bX X aX) hb (by omega), sp_b]
  · obtain ⟨X, x1, x2, x3, x4⟩ := k_chc (Q := Q) (y := 0) (a := U.1 (k + 7) b) (th := S.1 282 u) hN hh
    refine ⟨_, ?_, AC_i x2, CN_2 x3, CHC_c x4 (AC_i (AC_r (us := us) (h := h + 1)))⟩
    unfold jm_143
    rw [sp_b, n4, (cs_is n7 hs).2 (by omega) (by omega), sp_bd, if_pos (by decide)]
    try dsimp only
    rw [sp_b, n4, rdc2 (by omega), sp_b, rdc0 (by omega), rdk (j := 3) hA hB hb (by omega), rdk (j := 2) hA hB hb (by omega), h2, if_pos z1]
    try dsimp only
    rw [sp_jn]
    have fin : ((fun (s21 : ev_St) => ev_b (s21.2.2.1 281 0) fun r22 => ev_if (r22 ≠ 0) (ev_if ((0 : Int) ≤ (b : Int) ∧ (b : Int) < (ev_aln (((r22 - 1) + 1)) : Int)) (ev_b (s21.1 (((r22 - 1) + 1)) (Int.toNat (b : Int))) fun x24 => if x24 ≠ 13 then (ev_ck (4 * (b : Int)) fun x26 => ev_ck (x26 + 2) fun x27 => ev_b (s21.1 281 4) fun x28 => ev_bd (jm_130 Q 0 x27 x28 s21) fun _ s29 => ev_b (ev_pI s29 281 4 (S.1 282 u)) fun s30 => ev_b (s30.2.2.1 281 0) fun r31 => ev_if (r31 ≠ 0) (ev_if ((0 : Int) ≤ (b : Int) ∧ (b : Int) < (ev_aln (((r31 - 1) + 7)) : Int)) (ev_b (s30.1 (((r31 - 1) + 7)) (Int.toNat (b : Int))) fun x33 => ev_b (ev_pI s30 281 2 x33) fun s34 => some ((1 : Int), s34)))) else (ev_b (s21.2.2.1 281 0) fun r35 => ev_if (r35 ≠ 0) (ev_if ((0 : Int) ≤ (b : Int) ∧ (b : Int) < (ev_aln (((r35 - 1) + 7)) : Int)) (ev_b (s21.1 (((r35 - 1) + 7)) (Int.toNat (b : Int))) fun x37 => ev_bd (jm_130 Q 0 x37 (S.1 282 u) s21) fun _ s38 => ev_ck (4 * (b : Int)) fun x39 => ev_ck (x39 + 2) fun x40 => ev_b (ev_pI s38 281 2 x40) fun s41 => some (1, s41))))))) S) = some (1, ev_pI X 281 2 (4 * (b : Int) + 2)) := by
      try dsimp only
      rw [rdk (j := 1) hA hB hb (by omega), if_neg (fun y => y z3)]
      try dsimp only
      rw [rdk (j := 7) hA hB hb (by omega), x1, sp_bd, sp_ck (by omega), sp_ck (by omega), sp_b]
    by_cases w : U.1 (k + 3) b = -1
    · rw [if_pos w]
      exact fin
    · rw [if_neg w, if_pos (by omega)]
      exact fin
  · obtain ⟨X, x1, x2, x3, x4⟩ := k_chc (Q := Q) (y := 0) (a := 4 * (b : Int) + 2) (th := (u : Int)) hN hh
    obtain ⟨Y, hY⟩ : ∃ Y, Y = ev_pI X 281 4 (S.1 282 u) := ⟨_, rfl⟩
    have aY : AC us h S Y := by
      rw [hY]
      exact AC_i x2
    have cY : CN Y c x (S.1 282 u) g us (h + 1) n x0 := by
      rw [hY]
      exact CN_4 x3
    refine ⟨_, ?_, AC_i aY, CN_2 cY, ?_⟩
    · unfold jm_143
      rw [sp_b, n4, (cs_is n7 hs).2 (by omega) (by omega), sp_bd, if_pos (by decide)]
      try dsimp only
      rw [sp_b, n4, rdc2 (by omega), sp_b, rdc0 (by omega), rdk (j := 3) hA hB hb (by omega), rdk (j := 2) hA hB hb (by omega), h2, if_pos z1]
      try dsimp only
      rw [sp_jn]
      have fin : ((fun (s21 : ev_St) => ev_b (s21.2.2.1 281 0) fun r22 => ev_if (r22 ≠ 0) (ev_if ((0 : Int) ≤ (b : Int) ∧ (b : Int) < (ev_aln (((r22 - 1) + 1)) : Int)) (ev_b (s21.1 (((r22 - 1) + 1)) (Int.toNat (b : Int))) fun x24 => if x24 ≠ 13 then (ev_ck (4 * (b : Int)) fun x26 => ev_ck (x26 + 2) fun x27 => ev_b (s21.1 281 4) fun x28 => ev_bd (jm_130 Q 0 x27 x28 s21) fun _ s29 => ev_b (ev_pI s29 281 4 (S.1 282 u)) fun s30 => ev_b (s30.2.2.1 281 0) fun r31 => ev_if (r31 ≠ 0) (ev_if ((0 : Int) ≤ (b : Int) ∧ (b : Int) < (ev_aln (((r31 - 1) + 7)) : Int)) (ev_b (s30.1 (((r31 - 1) + 7)) (Int.toNat (b : Int))) fun x33 => ev_b (ev_pI s30 281 2 x33) fun s34 => some ((1 : Int), s34)))) else (ev_b (s21.2.2.1 281 0) fun r35 => ev_if (r35 ≠ 0) (ev_if ((0 : Int) ≤ (b : Int) ∧ (b : Int) < (ev_aln (((r35 - 1) + 7)) : Int)) (ev_b (s21.1 (((r35 - 1) + 7)) (Int.toNat (b : Int))) fun x37 => ev_bd (jm_130 Q 0 x37 (S.1 282 u) s21) fun _ s38 => ev_ck (4 * (b : Int)) fun x39 => ev_ck (x39 + 2) fun x40 => ev_b (ev_pI s38 281 2 x40) fun s41 => some (1, s41))))))) S) = some (1, ev_pI Y 281 2 (U.1 (k + 7) b)) := by
        try dsimp only
        rw [rdk (j := 1) hA hB hb (by omega), if_pos (by omega)]
        try dsimp only
        rw [sp_ck (by omega), sp_ck (by omega), sp_b, n4, x1, sp_bd, sp_b, ← hY, rdk (j := 7) hA (bX Y aY) hb (by omega), sp_b]
      by_cases w : U.1 (k + 3) b = -1
      · rw [if_pos w]
        exact fin
      · rw [if_neg w, if_pos (by omega)]
        exact fin
    · rw [hY]
      exact CHC_c x4 (AC_i (AC_i (AC_r (us := us) (h := h + 1))))
/-- a round is begun: the class -/
theorem g_beg (hA : STA k p N M φ ψ own up lo U) (hB : BAS k p U w len S T) (hb : b < M) (hv : v < M) (h4 : U.1 (k + 4) b = (v : Int)) (hN : CN S c x f g us h n x0) : (n < 1000 → ∃ S1, jm_144 Q (b : Int) S = some (1, S1) ∧ AC us h S S1 ∧ CN S1 (4 * (v : Int)) x f g us h (n + 1) x0) ∧ (1000 ≤ n → ∃ S1, jm_144 Q (b : Int) S = some (0, S1) ∧ S1.1 281 10 ≠ 0) := by
  have hM := (sa_num hA).1.2.2
  obtain ⟨X, hX⟩ : ∃ X, X = ev_pI S 281 2 (4 * (v : Int)) := ⟨_, rfl⟩
  have cX : CN X (4 * (v : Int)) x f g us h n x0 := by
    rw [hX]
    exact CN_2 hN
  have e : jm_144 Q (b : Int) S = ev_bd (jm_123 Q X) fun x8 s7 => ev_if (ev_bl x8) (some (x8, s7)) := by
    unfold jm_144
    rw [rdk (j := 4) hA hB hb (by omega), h4, sp_ck (by omega), sp_ck (by omega), sp_b, show 4 * (v : Int) + 0 = 4 * (v : Int) from by omega, ← hX]
  refine ⟨fun z => ⟨_, ?_, ?_, CN_14 cX⟩, fun z => ⟨ev_pI X 281 10 1, ?_, by rw [rd_eq]; decide⟩⟩
  · rw [e, (cs_step cX.2.2.2.2.1).1 z, sp_bd, sp_if (Or.inr rfl)]
  · rw [hX]
    exact AC_i (AC_i AC_r)
  · rw [e, (cs_step cX.2.2.2.2.1).2 z, sp_bd, sp_if (Or.inl rfl)]
-- the reference: choices, frames, steps
def RCH (T1 : ev_St) (h : Nat) (kd nd v x had th dp : Int) (vs ls : Nat) : Prop := T1.1 687 h = kd ∧ T1.1 688 h = nd ∧ T1.1 689 h = v ∧ T1.1 690 h = x ∧ T1.1 691 h = had ∧ T1.1 692 h = th ∧ T1.1 693 h = dp ∧ T1.1 694 h = (vs : Int) ∧ T1.1 695 h = (ls : Int)
def RFR (T1 : ev_St) (v : Nat) (kd nd y had th dp : Int) : Prop := T1.1 681 v = kd ∧ T1.1 682 v = nd ∧ T1.1 683 v = y ∧ T1.1 684 v = had ∧ T1.1 685 v = th ∧ T1.1 686 v = dp
theorem RCH_c {kd vv xx : Int} {v2 h2 l2 : Nat} (q : RCH T h kd nd vv xx had th dp vs ls) (hr : AR v2 h2 l2 T T1) (hh : h < h2) : RCH T1 h kd nd vv xx had th dp vs ls := by
  obtain ⟨q1, q2, q3, q4, q5, q6, q7, q8, q9⟩ := q
  have e : ∀ c, 687 ≤ c → c ≤ 695 → T1.1 c h = T.1 c h := fun c y1 y2 => hr.2.1 c h y1 y2 hh
  exact ⟨by rw [e _ (by omega) (by omega)]; exact q1, by rw [e _ (by omega) (by omega)]; exact q2, by rw [e _ (by omega) (by omega)]; exact q3, by rw [e _ (by omega) (by omega)]; exact q4, by rw [e _ (by omega) (by omega)]; exact q5, by rw [e _ (by omega) (by omega)]; exact q6, by rw [e _ (by omega) (by omega)]; exact q7, by rw [e _ (by omega) (by omega)]; exact q8, by rw [e _ (by omega) (by omega)]; exact q9⟩
theorem c_chc (hT : TN T td nd x had th dp vs h ls n fl) (hh : h < 100000) : ∃ T1, jm_292 Q y a c T = some ((), T1) ∧ AR vs h ls T T1 ∧ TN T1 td nd x had th dp vs (h + 1) ls n fl ∧ RCH T1 h y a c x had th dp vs ls := by
  obtain ⟨⟨a1, a2, a3, a4, a5, a6⟩, a7, a8, a9, a10, a11⟩ := hT
  obtain ⟨c1, c2, c3, c4, c5, c6, c7, c8, c9, c10⟩ := pRch_at (T := T) (u := h) (k := y) (nd := a) (v := c)
  have o : ∀ g, g ≠ 95 → (pRch T h y a c).1 621 g = T.1 621 g := fun g z => (pRch_oth (by omega) (by omega)).1
  exact ⟨pRch T h y a c, rf_chc a8 hh, AR_h AR_r (Nat.le_refl h), ⟨⟨by rw [o _ (by decide)]; exact a1, by rw [o _ (by decide)]; exact a2, by rw [o _ (by decide)]; exact a3, by rw [o _ (by decide)]; exact a4, by rw [o _ (by decide)]; exact a5, by rw [o _ (by decide)]; exact a6⟩, by rw [o _ (by decide)]; exact a7, c10, by rw [o _ (by decide)]; exact a9, by rw [o _ (by decide)]; exact a10, by rw [o _ (by decide)]; exact a11⟩, c1, c2, c3, by rw [c4, a3], by rw [c5, a4], by rw [c6, a5], by rw [c7, a6], by rw [c8, a7], by rw [c9, a9]⟩
theorem c_frm {kd vv hd nx d2 : Int} (hT : TN T td nd x had th dp vs h ls n fl) (hv : vs < 150000) : ∃ T1, jm_291 Q kd a vv hd nx d2 T = some ((vs : Int), T1) ∧ AR vs h ls T T1 ∧ TN T1 td nd x had th dp (vs + 1) h ls n fl ∧ RFR T1 vs kd a vv hd nx d2 := by
  obtain ⟨⟨a1, a2, a3, a4, a5, a6⟩, a7, a8, a9, a10, a11⟩ := hT
  obtain ⟨c1, c2, c3, c4, c5, c6, c7⟩ := pFrm_at (T := T) (u := vs) (k := kd) (nd := a) (v := vv) (had := hd) (nx := nx) (dp := d2)
  have o : ∀ g, g ≠ 88 → (pFrm T vs kd a vv hd nx d2).1 621 g = T.1 621 g := fun g z => (pFrm_oth (by omega) (by omega)).1
  exact ⟨_, rf_frm a7 hv, AR_f AR_r (Nat.le_refl _), ⟨⟨by rw [o _ (by decide)]; exact a1, by rw [o _ (by decide)]; exact a2, by rw [o _ (by decide)]; exact a3, by rw [o _ (by decide)]; exact a4, by rw [o _ (by decide)]; exact a5, by rw [o _ (by decide)]; exact a6⟩, c7, by rw [o _ (by decide)]; exact a8, by rw [o _ (by decide)]; exact a9, by rw [o _ (by decide)]; exact a10, by rw [o _ (by decide)]; exact a11⟩, c1, c2, c3, c4, c5, c6⟩
theorem RFR_c {kd vv : Int} {v2 h2 l2 : Nat} (q : RFR T v kd nd vv had th dp) (hr : AR v2 h2 l2 T T1) (hh : v < v2) : RFR T1 v kd nd vv had th dp := by
  obtain ⟨q1, q2, q3, q4, q5, q6⟩ := q
  have e : ∀ c, 681 ≤ c → c ≤ 686 → T1.1 c v = T.1 c v := fun c y1 y2 => hr.1 c v y1 y2 hh
  exact ⟨by rw [e _ (by omega) (by omega)]; exact q1, by rw [e _ (by omega) (by omega)]; exact q2, by rw [e _ (by omega) (by omega)]; exact q3, by rw [e _ (by omega) (by omega)]; exact q4, by rw [e _ (by omega) (by omega)]; exact q5, by rw [e _ (by omega) (by omega)]; exact q6⟩
def flg (n : Nat) : Int := if n < 1000 then 0 else 1
theorem c_stq (hT : TN T td nd x had th dp vs h ls n 0) (hn : n ≤ 1000) : jm_290 Q T = some ((), stq T n) ∧ AR vs h ls T (stq T n) ∧ TN (stq T n) td nd x had th dp vs h ls (n + 1) (flg n) := by
  refine ⟨rf_stq hT.2.2.2.2.1 (by omega) hT.2.2.2.2.2, ?_, ?_⟩
  · unfold stq
    exact AR_i (AR_i AR_r (by omega)) (by omega)
  · exact ⟨hT.1, hT.2.1, hT.2.2.1, hT.2.2.2.1, rfl, rfl⟩
theorem TN_78 (q : TN T td nd x had th dp vs h ls n fl) : TN (ev_pI T 621 78 y) y nd x had th dp vs h ls n fl := ⟨⟨rfl, q.1.2⟩, q.2⟩
theorem TN_80 (q : TN T td nd x had th dp vs h ls n fl) : TN (ev_pI T 621 80 y) td y x had th dp vs h ls n fl := ⟨⟨q.1.1, rfl, q.1.2.2⟩, q.2⟩
theorem TN_81 (q : TN T td nd x had th dp vs h ls n fl) : TN (ev_pI T 621 81 y) td nd y had th dp vs h ls n fl := ⟨⟨q.1.1, q.1.2.1, rfl, q.1.2.2.2⟩, q.2⟩
theorem TN_83 (q : TN T td nd x had th dp vs h ls n fl) : TN (ev_pI T 621 83 y) td nd x had y dp vs h ls n fl := ⟨⟨q.1.1, q.1.2.1, q.1.2.2.1, q.1.2.2.2.1, rfl, q.1.2.2.2.2.2⟩, q.2⟩
theorem TN_84 (q : TN T td nd x had th dp vs h ls n fl) : TN (ev_pI T 621 84 y) td nd x had th y vs h ls n fl := ⟨⟨q.1.1, q.1.2.1, q.1.2.2.1, q.1.2.2.2.1, q.1.2.2.2.2.1, rfl⟩, q.2⟩
theorem AR_tr {T2 : ev_St} {v2 h2 l2 : Nat} (h1 : AR vs h ls T T1) (h2' : AR v2 h2 l2 T1 T2) (e1 : vs ≤ v2) (e2 : h ≤ h2) (e3 : ls ≤ l2) : AR vs h ls T T2 := ⟨fun c i y1 y2 z => by rw [h2'.1 c i y1 y2 (by omega)]; exact h1.1 c i y1 y2 z, fun c i y1 y2 z => by rw [h2'.2.1 c i y1 y2 (by omega)]; exact h1.2.1 c i y1 y2 z, fun c i y1 y2 z => by rw [h2'.2.2.1 c i y1 y2 (by omega)]; exact h1.2.2.1 c i y1 y2 z, by rw [h2'.2.2.2.1]; exact h1.2.2.2.1, fun c g z1 z2 => by rw [h2'.2.2.2.2 c g z1 z2]; exact h1.2.2.2.2 c g z1 z2⟩
theorem AC_tr {u2 h2 : Nat} (h1 : AC us h S S1) (h2' : AC u2 h2 S1 S2) (e1 : us ≤ u2) (e2 : h ≤ h2) : AC us h S S2 := ⟨fun i z => by rw [h2'.1 i (by omega)]; exact h1.1 i z, fun i z => by rw [h2'.2.1 i (by omega)]; exact h1.2.1 i z, by rw [h2'.2.2.1]; exact h1.2.2.1, fun c g z => by rw [h2'.2.2.2 c g z]; exact h1.2.2.2 c g z⟩
/-- a round is begun: the reference -/
theorem t_rnd (hT : TN T td nd (x : Int) had th dp vs h ls n 0) (hv : vs < 150000) (hn : n ≤ 1000) (hr : r ≤ 100000) (hx : 0 ≤ x ∧ x ≤ 160) : ∃ T1, jm_300 Q a (r : Int) T = some ((), T1) ∧ AR vs h ls T T1 ∧ TN T1 2 nd x had (vs : Int) dp (vs + 1) h ls (n + 1) (flg n) ∧ RFR T1 vs 3 a (256 * ((r : Int) + 1) + x) (-1) th dp := by
  obtain ⟨e1, e2, e3⟩ := c_stq (Q := Q) hT hn
  obtain ⟨X, x1, x2, x3, x4⟩ := c_frm (Q := Q) (kd := 3) (a := a) (vv := 256 * ((r : Int) + 1) + x) (hd := -1) (nx := th) (d2 := dp) e3 hv
  refine ⟨ev_pI (ev_pI X 621 83 (vs : Int)) 621 78 2, ?_, AR_i (AR_i (AR_tr e2 x2 (Nat.le_refl _) (Nat.le_refl _) (Nat.le_refl _)) (by omega)) (by omega), TN_78 (TN_83 x3), RFR_c x4 (AR_i (AR_i (AR_r (vs := vs + 1) (h := h) (ls := ls)) (by omega)) (by omega)) (by omega)⟩
  unfold jm_300
  rw [e1, sp_bd, sp_ck (by omega), sp_ck (by omega), sp_b, e3.1.2.2.1, sp_ck (by omega), sp_b, e3.1.2.2.2.2.1, sp_b, e3.1.2.2.2.2.2, x1, sp_bd, sp_b, sp_b]
/-- whether there is one round more: the reference -/
theorem t_rep (hA : STA k p N M φ ψ own up lo U) (hB : BAS k p U w len S T) (hm : m < N) (hT : TN T td nd x had th dp vs h ls n 0) (hv : vs < 150000) (hn : n ≤ 1000) (hh : h < 100000) (hr : r ≤ 100000) (hx : 0 ≤ x ∧ x ≤ 160) (h85 : T.1 621 85 = (r : Int)) : ((r : Int) < U.1 631 (320 * p + m) → jm_301 Q ((320 * p + m : Nat) : Int) T = jm_300 Q ((320 * p + m : Nat) : Int) (r : Int) T) ∧ (U.1 631 (320 * p + m) ≤ (r : Int) → U.1 632 (320 * p + m) ≠ -1 → U.1 632 (320 * p + m) ≤ (r : Int) → ∃ T1, jm_301 Q ((320 * p + m : Nat) : Int) T = some ((), T1) ∧ AR vs h ls T T1 ∧ TN T1 4 nd x had th dp vs h ls n 0) ∧ (U.1 631 (320 * p + m) ≤ (r : Int) → (U.1 632 (320 * p + m) = -1 ∨ (r : Int) < U.1 632 (320 * p + m)) → U.1 630 (320 * p + m) ≠ 1 → ∃ T1, jm_301 Q ((320 * p + m : Nat) : Int) T = jm_300 Q ((320 * p + m : Nat) : Int) (r : Int) T1 ∧ AR vs h ls T T1 ∧ TN T1 td nd x had th dp vs (h + 1) ls n 0 ∧ RCH T1 h 1 ((320 * p + m : Nat) : Int) 0 x had th dp vs ls) ∧ (U.1 631 (320 * p + m) ≤ (r : Int) → (U.1 632 (320 * p + m) = -1 ∨ (r : Int) < U.1 632 (320 * p + m)) → U.1 630 (320 * p + m) = 1 → ∃ T1, jm_301 Q ((320 * p + m : Nat) : Int) T = some ((), T1) ∧ AR vs h ls T T1 ∧ TN T1 4 nd x had th dp vs (h + 1) ls n 0 ∧ RCH T1 h 2 ((320 * p + m : Nat) : Int) (r : Int) x had th dp vs ls) := by
  have unit : ∀ {O : Option (Unit × ev_St)}, (ev_bd O fun _ s15 => some ((), s15)) = O := fun {O} => by
    cases O with
    | none => rfl
    | some v => rfl
  have st : ∀ b : Int, b = (if U.1 632 (320 * p + m) ≠ -1 ∧ U.1 632 (320 * p + m) ≤ (r : Int) then 0 else 1) → jm_301 Q ((320 * p + m : Nat) : Int) T = (if U.1 631 (320 * p + m) ≤ (r : Int) then (if b ≠ 0 then (if U.1 630 (320 * p + m) ≠ 1 then (ev_bd (jm_292 Q 1 ((320 * p + m : Nat) : Int) 0 T) fun _ s13 => ev_b (s13.1 621 85) fun x14 => ev_bd (jm_300 Q ((320 * p + m : Nat) : Int) x14 s13) fun _ s15 => some ((), s15)) else (ev_bd (jm_292 Q 2 ((320 * p + m : Nat) : Int) (r : Int) T) fun _ s17 => ev_b (ev_pI s17 621 78 4) fun s18 => some ((), s18))) else (ev_b (ev_pI T 621 78 4) fun s19 => some ((), s19))) else jm_300 Q ((320 * p + m : Nat) : Int) (r : Int) T) := fun b hb => by
    have tl : ∀ b : Int, ((fun (x2 : Int) (s6 : ev_St) => ev_b (s6.1 621 85) fun x7 => ev_if ((0 : Int) ≤ ((320 * p + m : Nat) : Int) ∧ ((320 * p + m : Nat) : Int) < (ev_aln 631 : Int)) (ev_b (s6.1 631 (Int.toNat ((320 * p + m : Nat) : Int))) fun x8 => if x8 ≤ x7 then (if x2 ≠ 0 then (ev_if ((0 : Int) ≤ ((320 * p + m : Nat) : Int) ∧ ((320 * p + m : Nat) : Int) < (ev_aln 630 : Int)) (ev_b (s6.1 630 (Int.toNat ((320 * p + m : Nat) : Int))) fun x11 => if x11 ≠ 1 then (ev_bd (jm_292 Q 1 ((320 * p + m : Nat) : Int) 0 s6) fun _ s13 => ev_b (s13.1 621 85) fun x14 => ev_bd (jm_300 Q ((320 * p + m : Nat) : Int) x14 s13) fun _ s15 => some ((), s15)) else (ev_b (s6.1 621 85) fun x16 => ev_bd (jm_292 Q 2 ((320 * p + m : Nat) : Int) x16 s6) fun _ s17 => ev_b (ev_pI s17 621 78 4) fun s18 => some ((), s18)))) else (ev_b (ev_pI s6 621 78 4) fun s19 => some ((), s19))) else (ev_b (s6.1 621 85) fun x20 => ev_bd (jm_300 Q ((320 * p + m : Nat) : Int) x20 s6) fun _ s21 => some ((), s21)))) b T) = (if U.1 631 (320 * p + m) ≤ (r : Int) then (if b ≠ 0 then (if U.1 630 (320 * p + m) ≠ 1 then (ev_bd (jm_292 Q 1 ((320 * p + m : Nat) : Int) 0 T) fun _ s13 => ev_b (s13.1 621 85) fun x14 => ev_bd (jm_300 Q ((320 * p + m : Nat) : Int) x14 s13) fun _ s15 => some ((), s15)) else (ev_bd (jm_292 Q 2 ((320 * p + m : Nat) : Int) (r : Int) T) fun _ s17 => ev_b (ev_pI s17 621 78 4) fun s18 => some ((), s18))) else (ev_b (ev_pI T 621 78 4) fun s19 => some ((), s19))) else jm_300 Q ((320 * p + m : Nat) : Int) (r : Int) T) := fun b => by
      try dsimp only
      rw [sp_b, h85, rdT hA hB hm (by omega), rdT hA hB hm (by omega)]
      simp only [sp_b, unit]
    unfold jm_301
    rw [rdT hA hB hm (by omega), sp_jn, sp_jn]
    by_cases z1 : U.1 632 (320 * p + m) = -1
    · rw [if_neg (fun y => y.1 z1)] at hb
      rw [if_pos z1, hb]
      exact tl 1
    · rw [if_neg z1]
      try dsimp only
      rw [sp_b, rdT hA hB hm (by omega)]
      by_cases z2 : U.1 632 (320 * p + m) ≤ (r : Int)
      · rw [if_pos ⟨z1, z2⟩] at hb
        rw [if_pos (show U.1 632 (320 * p + m) ≤ T.1 621 85 by rw [h85]; exact z2), hb]
        exact tl 0
      · rw [if_neg (fun y => z2 y.2)] at hb
        rw [if_neg (show ¬ U.1 632 (320 * p + m) ≤ T.1 621 85 by rw [h85]; exact z2), hb]
        exact tl 1
  refine ⟨fun z1 => ?_, fun z1 z2 z3 => ?_, fun z1 z2 z3 => ?_, fun z1 z2 z3 => ?_⟩
  · rw [st _ rfl, if_neg (by omega)]
  · refine ⟨_, ?_, AR_i AR_r (by omega), TN_78 hT⟩
    rw [st 0 (by rw [if_pos ⟨z2, z3⟩]), if_pos z1]
    try dsimp only
    rw [if_neg (fun y => y rfl)]
    try dsimp only
    rw [sp_b]
  · obtain ⟨X, x1, x2, x3, x4⟩ := c_chc (Q := Q) (y := 1) (a := ((320 * p + m : Nat) : Int)) (c := 0) hT hh
    have x85 : X.1 621 85 = (r : Int) := by
      have q : X = pRch T h 1 ((320 * p + m : Nat) : Int) 0 := by
        have := x1
        rw [rf_chc hT.2.2.1 hh] at this
        injection this with this
        injection this with _ this
        exact this.symm
      rw [q, (pRch_oth (by omega) (by omega)).1, h85]
    refine ⟨X, ?_, x2, x3, x4⟩
    rw [st 1 (by rw [if_neg (by omega)]), if_pos z1]
    try dsimp only
    rw [if_pos (by decide)]
    try dsimp only
    rw [if_pos z3]
    try dsimp only
    rw [x1, sp_bd, sp_b, x85, unit]
  · obtain ⟨X, x1, x2, x3, x4⟩ := c_chc (Q := Q) (y := 2) (a := ((320 * p + m : Nat) : Int)) (c := (r : Int)) hT hh
    refine ⟨_, ?_, AR_i x2 (by omega), TN_78 x3, RCH_c x4 (AR_i (AR_r (vs := vs) (h := h + 1) (ls := ls)) (by omega)) (Nat.lt_succ_self h)⟩
    rw [st 1 (by rw [if_neg (by omega)]), if_pos z1]
    try dsimp only
    rw [if_pos (by decide)]
    try dsimp only
    rw [if_neg (fun y => y z3)]
    try dsimp only
    rw [x1, sp_bd, sp_b]
end OPZL
