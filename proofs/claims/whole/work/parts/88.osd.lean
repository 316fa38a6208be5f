/-! MENDING: what is to be mended is prepared, on both sides -/
section OSD
variable {Q p k t n m i j len w s E : Nat} {S S1 S2 S' T T1 T2 T' U V : ev_St} {a c d e f v x y md lim : Int}
/-- how many signs the first m of them take away -/
def gsm (T : ev_St) : Nat → Int
  | 0 => 0
  | m + 1 => gsm T m + (T.1 705 m - T.1 704 m)
theorem gsm_c (h : ∀ j, j < m → T'.1 704 j = T.1 704 j ∧ T'.1 705 j = T.1 705 j) : gsm T' m = gsm T m := by
  induction m with
  | zero => rfl
  | succ m ih =>
    unfold gsm
    rw [ih fun j hj => h j (by omega), (h m (by omega)).1, (h m (by omega)).2]
/-- the reference's places and signs made -/
def RCT (m E s : Nat) (T : ev_St) : Prop := (∀ j, j < m → ∃ a b : Nat, T.1 704 j = (a : Int) ∧ T.1 705 j = (b : Int) ∧ a ≤ b ∧ b ≤ E) ∧ (∀ j, j + 1 < m → T.1 705 j ≤ T.1 704 (j + 1)) ∧ (m = 0 → s = 0) ∧ (0 < m → T.1 703 0 = 0 ∧ T.1 703 m = (s : Int)) ∧ ∀ j, j < m → T.1 703 j ≤ T.1 703 (j + 1)
def RCD (m : Nat) (S T : ev_St) : Prop := ∀ j, j < m → S.1 274 j = T.1 704 j ∧ S.1 275 j = T.1 705 j ∧ S.1 276 j = T.1 703 j
def FNL (m len s E : Nat) (S T : ev_St) : Prop := m ≤ 81 ∧ MD s S T ∧ RCT m E s T ∧ RCD m S T ∧ E ≤ len ∧ (0 ≤ gsm T m ∧ gsm T m ≤ (E : Int)) ∧ (len : Int) - gsm T m + (s : Int) ≤ 80
theorem al_pr : ev_aln 274 = 82 ∧ ev_aln 275 = 82 ∧ ev_aln 276 = 82 ∧ ev_aln 703 = 102 ∧ ev_aln 704 = 102 ∧ ev_aln 705 = 102 := by decide +kernel
/-- what preparing comes to, on both sides -/
def PRQ (Q p t len : Nat) (lim : Int) (m q q' place s : Nat) (S T : ev_St) : Prop := ∃ (v : Int) (T' : ev_St), jl_349_17 Q (p : Int) (t : Int) lim q' (m : Int) (if place ≤ len then (place : Int) else -1) ((len : Int) - gsm T m) T = some (v, T') ∧ FPt T T' ∧ (T'.1 621 73 = T.1 621 73 ∧ ∀ i, i < len → T'.1 678 i = T.1 678 i) ∧ (80 < s → v = -1) ∧ (s ≤ 80 → ∃ S', jl_44_26 Q 282 (313 + 20 * p + 1) (553 + 2 * t + 1) lim q (m : Int) (place : Int) ((len : Int) - gsm T m) (m : Int) S = (if v = -1 then some (-1, S') else ev_bd (jm_45 Q v S') fun _ s => some (v, s)) ∧ FPs S S' ∧ (v = -1 ∨ ∃ m' s' E', v = ((m' : Nat) : Int) ∧ FNL m' len s' E' S' T'))
/-- the end of it -/
theorem pr_fin {q q' place : Nat} {S2 T2 : ev_St} (f1 : FPs S S2) (f2 : FPt T T2) (f3 : T2.1 621 73 = T.1 621 73 ∧ ∀ i, i < len → T2.1 678 i = T.1 678 i) (f4 : MD s S2 T2) (f5 : RCT m E s T2) (f6 : 0 ≤ gsm T2 m ∧ gsm T2 m ≤ (E : Int)) (f7 : gsm T2 m = gsm T m) (f8 : s ≤ 80 → RCD m S2 T2) (hE : m ≤ 81 ∧ E ≤ len ∧ len ≤ 80) (f9 : jl_349_17 Q (p : Int) (t : Int) lim q' (m : Int) (if place ≤ len then (place : Int) else -1) ((len : Int) - gsm T m) T = if (len : Int) - gsm T m + (s : Int) ≤ 80 then some ((m : Int), T2) else some (-1, T2)) (f10 : s ≤ 80 → jl_44_26 Q 282 (313 + 20 * p + 1) (553 + 2 * t + 1) lim q (m : Int) (place : Int) ((len : Int) - gsm T m) (m : Int) S = if (len : Int) - gsm T m + (s : Int) ≤ 80 then (ev_bd (jm_45 Q (m : Int) S2) fun _ s => some ((m : Int), s)) else some (-1, S2)) : PRQ Q p t len lim m q q' place s S T := by
  by_cases y : (len : Int) - gsm T m + (s : Int) ≤ 80
  · rw [if_pos y] at f9 f10
    exact ⟨(m : Int), T2, f9, f2, f3, fun z => by omega, fun z => ⟨S2, by rw [if_neg (show ¬ ((m : Int) = -1) by omega)]; exact f10 z, f1, Or.inr ⟨m, s, E, rfl, hE.1, f4, f5, f8 z, hE.2.1, f6, by rw [f7]; exact y⟩⟩⟩
  · rw [if_neg y] at f9 f10
    exact ⟨-1, T2, f9, f2, f3, fun _ => rfl, fun z => ⟨S2, by rw [if_pos rfl]; exact f10 z, f1, Or.inl rfl⟩⟩
/-- behind the text -/
theorem pr_out {q q' place : Nat} (hp : ¬ place ≤ len) (h4 : place ≤ len + 1) (hP : PRC p t len n S T) (hM : MD s S T) (hs : (s : Int) ≤ 20000 * (m : Int)) (hR : RCT m E s T) (hE : m ≤ place ∧ E ≤ place ∧ E ≤ len) (hg : 0 ≤ gsm T m ∧ gsm T m ≤ (E : Int)) (hD : s ≤ 80 → RCD m S T) : PRQ Q p t len lim m (q + 1) (q' + 1) place s S T := by
  have l80 := hP.2.2.1.2.2.1
  refine pr_fin FPs_r FPt_r ⟨rfl, fun _ _ => rfl⟩ hM hR hg rfl hD ⟨by omega, hE.2.2, l80⟩ ?_ (fun z => ?_)
  · show jb_349_17 Q (p : Int) (t : Int) lim _ _ _ _ T = _
    unfold jb_349_17
    rw [sp_jn, if_neg hp, if_pos rfl]
    try dsimp only
    rw [sp_b, hM.1, sp_ck (by omega)]
  · show jb_44_26 Q 282 (313 + 20 * p + 1) (553 + 2 * t + 1) lim _ _ _ _ _ S = _
    have c70 : S.1 270 1 < (place : Int) := by
      rw [hP.2.2.1.1]
      omega
    have m272 : S.1 272 1 = (s : Int) := by
      rw [hM.2.1, if_pos (by omega)]
    unfold jb_44_26
    rw [sp_jn]
    by_cases y2 : lim ≤ (m : Int)
    · rw [if_pos y2]
      try dsimp only
      rw [sp_b, m272, sp_ck (by omega)]
    · rw [if_neg y2]
      by_cases y3 : 82 ≤ (m : Int)
      · rw [if_pos y3]
        try dsimp only
        rw [sp_b, m272, sp_ck (by omega)]
      · rw [if_neg y3, sp_b, if_pos c70]
        try dsimp only
        rw [sp_b, m272, sp_ck (by omega)]
theorem prep (hQ : 40000000000 ≤ Q) : ∀ (r m q q' place s E : Nat) (S T : ev_St), len + 1 ≤ place + r → r < q → r + 1 < q' → place ≤ len + 1 → PRC p t len n S T → MD s S T → (s : Int) ≤ 20000 * (m : Int) → RCT m E s T → (m ≤ place ∧ E ≤ place ∧ E ≤ len) → (0 ≤ gsm T m ∧ gsm T m ≤ (E : Int)) → (s ≤ 80 → RCD m S T) → PRQ Q p t len lim m q q' place s S T := fun r => by
  obtain ⟨l274, l275, l276, l703, l704, l705⟩ := al_pr
  induction r with
  | zero =>
    intro m q q' place s E S T h1 h2 h3 h4 hP hM hs hR hE hg hD
    obtain ⟨q, rfl⟩ : ∃ r, q = r + 1 := ⟨q - 1, by omega⟩
    obtain ⟨q', rfl⟩ : ∃ r, q' = r + 1 := ⟨q' - 1, by omega⟩
    exact pr_out (by omega) h4 hP hM hs hR hE hg hD
  | succ r ih =>
    intro m q q' place s E S T h1 h2 h3 h4 hP hM hs hR hE hg hD
    obtain ⟨q, rfl⟩ : ∃ r, q = r + 1 := ⟨q - 1, by omega⟩
    obtain ⟨q', rfl⟩ : ∃ r, q' = r + 1 := ⟨q' - 1, by omega⟩
    have l80 := hP.2.2.1.2.2.1
    have t73 := hP.2.2.1.2.1
    have m272 : ∀ X Y : ev_St, MD s X Y → s ≤ 80 → X.1 272 1 = (s : Int) := fun X Y hXY z => by
      rw [hXY.2.1, if_pos (by omega)]
    by_cases hp : place ≤ len
    · by_cases hl : lim ≤ (m : Int)
      · refine pr_fin FPs_r FPt_r ⟨rfl, fun _ _ => rfl⟩ hM hR hg rfl hD ⟨by omega, hE.2.2, l80⟩ ?_ (fun z => ?_)
        · show jb_349_17 Q (p : Int) (t : Int) lim _ _ _ _ T = _
          unfold jb_349_17
          rw [sp_jn, if_pos hp, if_neg (show ¬ ((place : Int) = -1) by omega), if_pos hl]
          try dsimp only
          rw [sp_b, hM.1, sp_ck (by omega)]
        · show jb_44_26 Q 282 (313 + 20 * p + 1) (553 + 2 * t + 1) lim _ _ _ _ _ S = _
          unfold jb_44_26
          rw [sp_jn, if_pos hl]
          try dsimp only
          rw [sp_b, m272 S T hM z, sp_ck (by omega)]
      · obtain ⟨vc, vr, S1, T1, s1, s2, s3, s4, s5, s6, s7, s8, s9⟩ := pr_srch (x := (place : Int)) hQ hP (by omega)
        have M1 : MD s S1 T1 := ⟨by rw [s8]; exact hM.1, by rw [s6 _ _ (by omega) (by omega)]; exact hM.2.1, fun i a b => by rw [s6 _ _ (by omega) (by omega), s7 _ _ (by omega) (by omega)]; exact hM.2.2 i a b⟩
        have R1 : RCT m E s T1 := by
          unfold RCT
          simp only [s7 703 _ (by omega) (by omega), s7 704 _ (by omega) (by omega), s7 705 _ (by omega) (by omega)]
          exact hR
        have g1 : gsm T1 m = gsm T m := gsm_c fun j _ => ⟨s7 _ _ (by omega) (by omega), s7 _ _ (by omega) (by omega)⟩
        have D1 : s ≤ 80 → RCD m S1 T1 := fun z j hj => by
          rw [s6 _ _ (by omega) (by omega), s6 _ _ (by omega) (by omega), s6 _ _ (by omega) (by omega), s7 _ _ (by omega) (by omega), s7 _ _ (by omega) (by omega), s7 _ _ (by omega) (by omega)]
          exact hD z j hj
        have cin : ∀ X, jl_44_26 Q 282 (313 + 20 * p + 1) (553 + 2 * t + 1) lim (q + 1) (m : Int) (place : Int) ((len : Int) - gsm T m) (m : Int) S = X ↔ (if vc ≠ -2 then (if 0 ≤ vc then (ev_b (S1.1 272 1) fun x36 => ev_if ((0 : Int) ≤ (m : Int) ∧ (m : Int) < (ev_aln 276 : Int)) (ev_b (ev_pI S1 276 (Int.toNat (m : Int)) x36) fun s37 => ev_if ((1000 : Int) ≠ 0) (ev_b (ev_idiv vc 1000) fun x38 => ev_if ((0 : Int) ≤ (m : Int) ∧ (m : Int) < (ev_aln 274 : Int)) (ev_b (ev_pI s37 274 (Int.toNat (m : Int)) x38) fun s39 => ev_if ((1000 : Int) ≠ 0) (ev_b (ev_irem vc 1000) fun x40 => ev_if ((0 : Int) ≤ (m : Int) ∧ (m : Int) < (ev_aln 275 : Int)) (ev_b (ev_pI s39 275 (Int.toNat (m : Int)) x40) fun s41 => ev_ck ((m : Int) + 1) fun x42 => ev_bd (jm_50 Q (553 + 2 * t + 1) 282 x42 s41) fun _ s43 => ev_if ((0 : Int) ≤ (m : Int) ∧ (m : Int) < (ev_aln 275 : Int)) (ev_b (s43.1 275 (Int.toNat (m : Int))) fun x44 => ev_if ((0 : Int) ≤ (m : Int) ∧ (m : Int) < (ev_aln 274 : Int)) (ev_b (s43.1 274 (Int.toNat (m : Int))) fun x45 => ev_ck (x44 - x45) fun x46 => ev_ck ((len : Int) - gsm T m - x46) fun x47 => ev_b (s43.1 272 1) fun x48 => if x48 ≤ 80 then (ev_if ((282 : Nat) ≠ 0) (ev_bd (jm_117 Q s43) fun x52 s51 => ev_ck ((m : Int) + 1) fun x53 => jl_44_26 Q 282 (313 + 20 * p + 1) (553 + 2 * t + 1) lim q x42 x52 x47 x53 s51)) else (some ((-1), s43)))))))))) else (ev_b (S1.1 272 1) fun x23 => ev_ck ((len : Int) - gsm T m + x23) fun x24 => if x24 ≤ 80 then (ev_bd (jm_45 Q (m : Int) S1) fun _ s26 => some ((m : Int), s26)) else (some ((-1), S1)))) else (some ((-1), S1))) = X := fun X => by
          have e : jl_44_26 Q 282 (313 + 20 * p + 1) (553 + 2 * t + 1) lim (q + 1) (m : Int) (place : Int) ((len : Int) - gsm T m) (m : Int) S = jb_44_26 Q 282 (313 + 20 * p + 1) (553 + 2 * t + 1) lim (jl_44_26 Q 282 (313 + 20 * p + 1) (553 + 2 * t + 1) lim q) (m : Int) (place : Int) ((len : Int) - gsm T m) (m : Int) S := rfl
          rw [e]
          unfold jb_44_26
          rw [sp_jn, if_neg hl, if_neg (show ¬ (82 : Int) ≤ (m : Int) by omega), sp_b, hP.2.2.1.1, if_neg (show ¬ (len : Int) < (place : Int) by omega), sp_if (by decide), s1, sp_bd]
          exact Iff.rfl
        have rin : jl_349_17 Q (p : Int) (t : Int) lim (q' + 1) (m : Int) (if place ≤ len then (place : Int) else -1) ((len : Int) - gsm T m) T = jb_349_17 Q (p : Int) (t : Int) lim (jl_349_17 Q (p : Int) (t : Int) lim q') (m : Int) (place : Int) ((len : Int) - gsm T m) T := by
          rw [if_pos hp]
          rfl
        rcases s9 with ⟨y1, y2⟩ | ⟨y1, y2⟩ | ⟨y1, y, e, y2, y3, y4, y5, y6, y7, y8, y9, y10⟩
        · refine ⟨-1, T1, ?_, s4, s5, fun _ => rfl, fun z => ⟨S1, ?_, s3, Or.inl rfl⟩⟩
          · rw [rin]
            unfold jb_349_17
            rw [sp_jn, if_neg (show ¬ ((place : Int) = -1) by omega), if_neg hl, s2, sp_bd, y1, if_neg (fun z => z rfl)]
          · rw [if_pos rfl]
            refine (cin _).mpr ?_
            rw [y2, if_neg (fun z => z rfl)]
        · refine pr_fin s3 s4 s5 M1 R1 (by rw [g1]; exact hg) g1 D1 ⟨by omega, hE.2.2, l80⟩ ?_ (fun z => ?_)
          · obtain ⟨q'', rfl⟩ : ∃ r, q' = r + 1 := ⟨q' - 1, by omega⟩
            rw [rin]
            unfold jb_349_17
            simp only [sp_jn]
            rw [if_neg (show ¬ ((place : Int) = -1) by omega), if_neg hl, s2, sp_bd, y1, if_pos (by decide), if_pos (by decide), if_pos (by decide)]
            show jb_349_17 Q (p : Int) (t : Int) lim _ _ _ _ T1 = _
            unfold jb_349_17
            rw [sp_jn, if_pos rfl]
            try dsimp only
            rw [sp_b, M1.1, sp_ck (by omega)]
          · refine (cin _).mpr ?_
            rw [y2, if_pos (by decide), if_neg (by decide), sp_b, m272 S1 T1 M1 z, sp_ck (by omega)]
        · have dv : ev_idiv vc 1000 = (y : Int) := by
            rw [y2, sp_div (by omega) (by decide)]
            omega
          have rm : ev_irem vc 1000 = (e : Int) := by
            rw [y2, sp_rem (by omega) (by decide)]
            omega
          obtain ⟨W, hW⟩ : ∃ W, W = ev_pI (ev_pI (ev_pI S1 276 m (S1.1 272 1)) 274 m (y : Int)) 275 m (e : Int) := ⟨_, rfl⟩
          have wI : ∀ c g, ¬ (274 ≤ c ∧ c ≤ 276 ∧ g = m) → W.1 c g = S1.1 c g := fun c g z => by
            rw [hW, sp_pI1, if_neg (by omega), sp_pI1, if_neg (by omega), sp_pI1, if_neg (by omega)]
          have fW : FPs S1 W := by
            rw [hW]
            exact FPs_t (FPs_t (FPs_w (by omega)) (FPs_w (by omega))) (FPs_w (by omega))
          obtain ⟨X, hX⟩ : ∃ X, X = ev_pI (ev_pI (ev_pI T1 704 m (y : Int)) 705 m (e : Int)) 703 m (s : Int) := ⟨_, rfl⟩
          have xI : ∀ c g, ¬ (703 ≤ c ∧ c ≤ 705 ∧ g = m) → X.1 c g = T1.1 c g := fun c g z => by
            rw [hX, sp_pI1, if_neg (by omega), sp_pI1, if_neg (by omega), sp_pI1, if_neg (by omega)]
          have fX : FPt T1 X := by
            rw [hX]
            exact FPt_t (FPt_t (FPt_w (by omega)) (FPt_w (by omega))) (FPt_w (by omega))
          have xv : X.1 704 m = (y : Int) ∧ X.1 705 m = (e : Int) ∧ X.1 703 m = (s : Int) := by
            rw [hX]
            exact ⟨by rw [rd_nk (by decide), rd_nk (by decide), rd_eq], by rw [rd_nk (by decide), rd_eq], rd_eq⟩
          have MX : MD s W X := ⟨by rw [xI _ _ (by omega)]; exact M1.1, by rw [wI _ _ (by omega)]; exact M1.2.1, fun i a b => by rw [wI _ _ (by omega), xI _ _ (by omega)]; exact M1.2.2 i a b⟩
          have FX : FLC Q (313 + 20 * p) p t len n W X := by
            obtain ⟨⟨a1, a2⟩, ⟨b1, b2⟩, c1, d1, e1, ⟨f1, f2, f3, f4⟩, g1, g2, g3, g4⟩ := y10
            refine ⟨⟨by rw [hW]; exact a1, by rw [hW]; exact a2⟩, ⟨b1, b2⟩, ?_, fun l hl => ?_, fun i hi => ?_, ⟨by rw [wI _ _ (by omega)]; exact f1, by rw [xI _ _ (by omega)]; exact f2, f3, fun i hi => by rw [wI _ _ (by omega), xI _ _ (by omega)]; exact f4 i hi⟩, g1, by rw [wI _ _ (by omega)]; exact g2, g3, fun g hg => by rw [wI _ _ (by omega), xI _ _ (by omega)]; exact g4 g hg⟩
            · rw [wI _ _ (by omega), xI _ _ (by omega)]
              exact c1
            · rw [wI _ _ (by omega), xI _ _ (by omega), xI _ _ (by omega)]
              exact d1 l hl
            · rw [xI _ _ (by omega), xI _ _ (by omega)]
              have jc : ∀ {y : Int}, jm_118 Q (i : Int) S1 = some (y, S1) → jm_118 Q (i : Int) W = some (y, W) := fun hj => j118_c (fun c g y1 y2 => wI c g (by omega)) hj
              have r1 : W.2.2.1 = S1.2.2.1 := by rw [hW]; rfl
              rcases e1 i hi with ⟨y1, y2⟩ | ⟨y1, y2, y3, y4, y5, y6⟩
              · exact Or.inl ⟨y1, jc y2⟩
              · refine Or.inr ⟨y1, y2, jc y3, ?_, y5, ?_⟩
                · rw [r1, a1, show 313 + 20 * p + 1 - 1 = 313 + 20 * p from rfl, wI _ _ (by omega)]
                  rw [a1] at y4
                  exact y4
                · rw [r1, a2, show 270 + 1 - 1 = 270 from rfl, wI _ _ (by omega)]
                  rw [a2] at y6
                  exact y6
          have PX : PRC p t len n W X := PRC_c hP (FPs_t s3 fW) (FPt_t s4 fX) (by rw [xI _ _ (by omega)]; exact s5.1) (fun i hi => by rw [xI _ _ (by omega)]; exact s5.2 i hi)
          obtain ⟨s', S2, T2, q1, q2, q3, q4, q5, q6⟩ := fl_two (num := (m : Int) + 1) (by omega) (by omega) FX PX.2.2.2.2.2 PX.2.2.2.2.1 MX (by omega)
          obtain ⟨T3, hT3⟩ : ∃ T3, T3 = ev_pI T2 703 (m + 1) (s' : Int) := ⟨_, rfl⟩
          have f3 : FPt T2 T3 := by
            rw [hT3]
            exact FPt_w (by omega)
          have t3I : ∀ c g, ¬ (c = 703 ∧ g = m + 1) → T3.1 c g = T2.1 c g := fun c g z => by rw [hT3, sp_pI1, if_neg z]
          have FT : FPt T T3 := FPt_t (FPt_t s4 fX) (FPt_t (FPt_m q5) f3)
          have FS : FPs S S2 := FPs_t (FPs_t s3 fW) (FPs_m q4)
          have c73 : T3.1 621 73 = T.1 621 73 ∧ ∀ i, i < len → T3.1 678 i = T.1 678 i := ⟨by rw [t3I _ _ (by omega), q5.1 _ _ (by omega) (by omega), xI _ _ (by omega)]; exact s5.1, fun i hi => by rw [t3I _ _ (by omega), q5.1 _ _ (by omega) (by omega), xI _ _ (by omega)]; exact s5.2 i hi⟩
          have rcc : ∀ c g, 704 ≤ c → c ≤ 705 → T3.1 c g = X.1 c g := fun c g z1 z2 => by rw [t3I _ _ (by omega), q5.1 _ _ (by omega) (by omega)]
          have r03 : ∀ g, g ≠ m + 1 → T3.1 703 g = X.1 703 g := fun g z => by rw [t3I _ _ (by omega), q5.1 _ _ (by omega) (by omega)]
          have M3 : MD s' S2 T3 := ⟨by rw [t3I _ _ (by omega)]; exact q3.1, q3.2.1, fun i a b => by rw [t3I _ _ (by omega)]; exact q3.2.2 i a b⟩
          have g0 : gsm T3 m = gsm T m := gsm_c fun j hj => ⟨by rw [rcc _ _ (by omega) (by omega), xI _ _ (by omega)]; exact s7 _ _ (by omega) (by omega), by rw [rcc _ _ (by omega) (by omega), xI _ _ (by omega)]; exact s7 _ _ (by omega) (by omega)⟩
          have g3 : gsm T3 (m + 1) = gsm T m + ((e : Int) - (y : Int)) := by
            show gsm T3 m + (T3.1 705 m - T3.1 704 m) = _
            rw [g0, rcc _ _ (by omega) (by omega), rcc _ _ (by omega) (by omega), xv.1, xv.2.1]
          have x03 : ∀ j, j ≤ m → (j = m ∨ j < m) := fun j hj => by omega
          have o703 : ∀ j, j < m → X.1 703 j = T.1 703 j := fun j hj => by rw [xI _ _ (by omega)]; exact s7 _ _ (by omega) (by omega)
          have R3 : RCT (m + 1) e s' T3 := by
            obtain ⟨r1, r2, r3, r4, r5⟩ := hR
            refine ⟨fun j hj => ?_, fun j hj => ?_, fun z => absurd z (Nat.succ_ne_zero m), fun _ => ⟨?_, by rw [hT3, rd_eq]⟩, fun j hj => ?_⟩
            · rw [rcc _ _ (by omega) (by omega), rcc _ _ (by omega) (by omega)]
              by_cases z : j = m
              · subst z
                exact ⟨y, e, xv.1, xv.2.1, y4, Nat.le_refl _⟩
              · rw [xI _ _ (by omega), xI _ _ (by omega), s7 _ _ (by omega) (by omega), s7 _ _ (by omega) (by omega)]
                obtain ⟨a, b, z1, z2, z3, z4⟩ := r1 j (by omega)
                exact ⟨a, b, z1, z2, z3, by omega⟩
            · rw [rcc _ _ (by omega) (by omega), rcc _ _ (by omega) (by omega)]
              by_cases z : j + 1 = m
              · rw [z, xv.1, xI _ _ (by omega), s7 _ _ (by omega) (by omega)]
                obtain ⟨a, b, z1, z2, z3, z4⟩ := r1 j (by omega)
                omega
              · rw [xI _ _ (by omega), xI _ _ (by omega), s7 _ _ (by omega) (by omega), s7 _ _ (by omega) (by omega)]
                exact r2 j (by omega)
            · rw [r03 0 (by omega)]
              by_cases z : m = 0
              · rw [← z, xv.2.2]
                have := r3 z
                omega
              · rw [o703 0 (by omega)]
                exact (r4 (by omega)).1
            · rw [r03 j (by omega)]
              by_cases z : j = m
              · rw [z, xv.2.2, hT3, rd_eq]
                omega
              · rw [r03 (j + 1) (by omega), o703 j (by omega)]
                by_cases z2 : j + 1 = m
                · rw [z2, xv.2.2, ← (r4 (by omega)).2, ← z2]
                  exact r5 j (by omega)
                · rw [o703 (j + 1) (by omega)]
                  exact r5 j (by omega)
          have D3 : s' ≤ 80 → RCD (m + 1) S2 T3 := fun z j hj => by
            rw [rcc _ _ (by omega) (by omega), rcc _ _ (by omega) (by omega), r03 j (by omega), q4.1 _ _ (by omega) (by omega) (by omega), q4.1 _ _ (by omega) (by omega) (by omega), q4.1 _ _ (by omega) (by omega) (by omega)]
            by_cases w : j = m
            · rw [w, xv.1, xv.2.1, xv.2.2, hW]
              exact ⟨by rw [rd_nk (by decide), rd_eq], rd_eq, by rw [rd_nk (by decide), rd_nk (by decide), rd_eq]; exact m272 S1 T1 M1 (by omega)⟩
            · rw [wI _ _ (by omega), wI _ _ (by omega), wI _ _ (by omega), xI _ _ (by omega), xI _ _ (by omega), xI _ _ (by omega)]
              exact D1 (by omega) j (by omega)
          obtain ⟨pl, hpl⟩ : ∃ pl : Nat, nxP (y : Int) (e : Int) = (pl : Int) := ⟨(nxP (y : Int) (e : Int)).toNat, by have := nxP_b (s := (y : Int)) (e := (e : Int)) (by omega); omega⟩
          have plb := nxP_b (s := (y : Int)) (e := (e : Int)) (by omega)
          rw [hpl] at plb
          have ple : e ≤ pl := by
            unfold nxP at hpl
            by_cases z : (e : Int) ≤ (y : Int)
            · rw [if_pos z] at hpl
              omega
            · rw [if_neg z] at hpl
              omega
          obtain ⟨v, T', u1, u2, u3, u4, u5⟩ := ih (m + 1) q q' pl s' e S2 T3 (by omega) (by omega) (by omega) (by omega) (PRC_c PX (FPs_m q4) (FPt_t (FPt_m q5) f3) (by rw [t3I _ _ (by omega), q5.1 _ _ (by omega) (by omega)]) (fun i hi => by rw [t3I _ _ (by omega), q5.1 _ _ (by omega) (by omega)])) M3 (by omega) R3 ⟨by omega, by omega, y5⟩ (by rw [g3]; omega) D3
          rw [g3] at u1 u5
          refine ⟨v, T', ?_, FPt_t FT u2, ⟨u3.1.trans c73.1, fun i hi => (u3.2 i hi).trans (c73.2 i hi)⟩, fun z => u4 (by omega), fun z => ?_⟩
          · have x33 : jm_333 Q T3 = some (if (pl : Int) ≤ (len : Int) then (pl : Int) else -1, T3) := by
              have e679 : T3.1 679 0 = (y : Int) := by rw [t3I _ _ (by omega), q5.1 _ _ (by omega) (by omega), xI _ _ (by omega)]; exact y6
              have e680 : T3.1 680 0 = (e : Int) := by rw [t3I _ _ (by omega), q5.1 _ _ (by omega) (by omega), xI _ _ (by omega)]; exact y7
              rw [sp_333 (len := len) (by rw [c73.1]; exact t73) (by rw [e680]; omega), e679, e680, hpl]
            have a1 : (ev_pI T1 704 m (y : Int)).1 680 0 = (e : Int) := by
              rw [rd_nk (by decide)]
              exact y7
            have a2 : (ev_pI (ev_pI T1 704 m (y : Int)) 705 m (e : Int)).1 680 0 = (e : Int) := by
              rw [rd_nk (by decide), rd_nk (by decide)]
              exact y7
            have a3 : (ev_pI (ev_pI T1 704 m (y : Int)) 705 m (e : Int)).1 679 0 = (y : Int) := by
              rw [rd_nk (by decide), rd_nk (by decide)]
              exact y6
            have a4 : (ev_pI (ev_pI T1 704 m (y : Int)) 705 m (e : Int)).1 621 113 = (s : Int) := by
              rw [rd_nk (by decide), rd_nk (by decide), s8]
              exact hM.1
            rw [rin]
            unfold jb_349_17
            simp only [sp_jn]
            rw [if_neg (show ¬ ((place : Int) = -1) by omega), if_neg hl, s2, sp_bd, y1, if_pos (by decide), if_neg (by decide), sp_if (by rw [al_fl.2.2.1]; decide), sp_b, show Int.toNat 0 = 0 from rfl, y6, sp_if (by rw [l704]; omega), sp_b, Int.toNat_natCast, sp_if (by rw [al_fl.2.2.2.1]; decide), sp_b, a1, sp_if (by rw [l705]; omega), sp_b, sp_if (by rw [al_fl.2.2.2.1]; decide), sp_b, a2, sp_if (by rw [al_fl.2.2.1]; decide), sp_b, a3, sp_ck (by omega), sp_ck (by omega), sp_b, a4, sp_if (by rw [l703]; omega), sp_b, ← hX, sp_ck (by omega), q2, sp_bd, sp_ck (by omega), sp_b, q3.1, sp_if (by rw [l703]; omega), sp_b, show ((m : Int) + 1).toNat = m + 1 by omega, ← hT3, if_neg (by decide), x33, sp_bd]
            rw [show (len : Int) - gsm T m - ((e : Int) - (y : Int)) = (len : Int) - (gsm T m + ((e : Int) - (y : Int))) by omega, show (m : Int) + 1 = ((m + 1 : Nat) : Int) by omega]
            have cast : (if (pl : Int) ≤ (len : Int) then (pl : Int) else -1) = (if pl ≤ len then (pl : Int) else -1) := by
              by_cases z : pl ≤ len
              · rw [if_pos z, if_pos (by omega)]
              · rw [if_neg z, if_neg (by omega)]
            rw [cast]
            exact u1
          · have w272 := hM.2.1
            have s2I : S2.1 272 1 = ((if s' < 160 then s' else 160 : Nat) : Int) := q3.2.1
            have c275 : S2.1 275 m = (e : Int) := by rw [q4.1 _ _ (by omega) (by omega) (by omega), hW, rd_eq]
            have c274 : S2.1 274 m = (y : Int) := by rw [q4.1 _ _ (by omega) (by omega) (by omega), hW, rd_nk (by decide), rd_eq]
            have body : jl_44_26 Q 282 (313 + 20 * p + 1) (553 + 2 * t + 1) lim (q + 1) (m : Int) (place : Int) ((len : Int) - gsm T m) (m : Int) S = if S2.1 272 1 ≤ 80 then jl_44_26 Q 282 (313 + 20 * p + 1) (553 + 2 * t + 1) lim q ((m + 1 : Nat) : Int) (pl : Int) ((len : Int) - (gsm T m + ((e : Int) - (y : Int)))) ((m + 1 : Nat) : Int) S2 else some (-1, S2) := by
              have x117 : jm_117 Q S2 = some ((pl : Int), S2) := by
                have i11 : S2.1 281 11 = (y : Int) := by rw [q4.1 _ _ (by omega) (by omega) (by omega), wI _ _ (by omega)]; exact y8
                have i12 : S2.1 281 12 = (e : Int) := by rw [q4.1 _ _ (by omega) (by omega) (by omega), wI _ _ (by omega)]; exact y9
                rw [sp_117 (by rw [i12]; omega), i11, i12, hpl]
              refine (cin _).mpr ?_
              rw [if_pos (by rw [y2]; omega), if_pos (by rw [y2]; omega), sp_b, sp_if (by rw [l276]; omega), sp_b, sp_if (by decide), sp_b, dv, sp_if (by rw [l274]; omega), sp_b, sp_if (by decide), sp_b, rm, sp_if (by rw [l275]; omega), sp_b, Int.toNat_natCast, ← hW, sp_ck (by omega), q1, sp_bd, sp_if (by rw [l275]; omega), sp_b, sp_if (by rw [l274]; omega), sp_b, c275, c274, sp_ck (by omega), sp_ck (by omega), sp_b, sp_if (by decide), x117, sp_bd, sp_ck (by omega), show (len : Int) - gsm T m - ((e : Int) - (y : Int)) = (len : Int) - (gsm T m + ((e : Int) - (y : Int))) by omega, show (m : Int) + 1 = ((m + 1 : Nat) : Int) by omega]
            by_cases z2 : s' ≤ 80
            · obtain ⟨S', v1, v2, v3⟩ := u5 z2
              refine ⟨S', ?_, FPs_t FS v2, v3⟩
              rw [body, if_pos (by rw [s2I, if_pos (by omega)]; omega)]
              exact v1
            · have v1 := u4 (by omega)
              refine ⟨S2, ?_, FS, Or.inl v1⟩
              rw [body, if_neg (by rw [s2I]; by_cases z3 : s' < 160; rw [if_pos z3]; omega; rw [if_neg z3]; decide), if_pos v1]
    · exact pr_out hp h4 hP hM hs hR hE hg hD
end OSD
