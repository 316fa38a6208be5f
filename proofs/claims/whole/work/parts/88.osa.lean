/-! MENDING: a whole template, on both sides -/
section OSA
variable {Q p k t n m i j len s : Nat} {S S2 S' T T2 T' U V : ev_St} {a c d e f v x md al st num x7 : Int} {K : Int → Int → Int → Int → Int → Int → ev_St → Option (Unit × ev_St)}
/-- what a group had, or nothing, is put on both sides -/
theorem grp_put {KK : Int → Int → Int → Int → Int → ev_St → Option (Unit × ev_St)} {x5 x9 x258 a2 : Int} (hQ : 200 ≤ Q) (hF : FLC Q k p t len n S T) (hi : i < 10) (hM : MD s S T) (h11 : S.1 269 11 = md) (hm : md = 0 ∨ md = 1 ∨ md = 2) (hs : s ≤ 1990000) : ∃ s' S' T' cd, jm_118 Q (i : Int) S = some (cd, S) ∧ jm_53 Q 282 cd S = some ((), S') ∧ (ev_bd (jm_339 Q (p : Int) (i : Int) T) fun v s => if v = 0 then (ev_b (s.1 621 73) fun y => jl_340_193 Q (p : Int) a2 md x5 1 x7 x9 (i : Int) 1 x258 KK Q y s) else ev_if ((0 : Int) ≤ (i : Int) ∧ (i : Int) < (ev_aln 679 : Int)) (ev_b (s.1 679 (Int.toNat (i : Int))) fun y => jl_340_193 Q (p : Int) a2 md x5 1 x7 x9 (i : Int) 1 x258 KK Q y s)) = KK md x5 1 x7 x258 T' ∧ MD s' S' T' ∧ FRmS S S' ∧ S'.1 269 11 = md ∧ FRmT T T' ∧ s ≤ s' ∧ s' ≤ s + 160 := by
  obtain ⟨l36, l38, l79, l80, l78, l00, l01, _⟩ := al_fl
  obtain ⟨Q', rfl⟩ : ∃ r, Q = r + 1 := ⟨Q - 1, by omega⟩
  have l160 := hF.2.2.2.2.2.1.2.2.1
  rcases grp_two hF hi with ⟨y1, y2⟩ | ⟨u, w, y1, y2, y3, y4, y5, y6⟩
  · refine ⟨s, S, T, -3, y1, ?_, ?_, hM, FRmS_r, h11, FRmT_r, by omega⟩
    · unfold jm_53
      rw [if_pos (by decide)]
    · rw [y2, sp_bd, if_pos rfl, sp_b]
      exact j193_stop (Or.inr (Or.inr y2))
  · have dv : ev_idiv (1000 * (u : Int) + (w : Int)) 1000 = (u : Int) := by
      rw [sp_div (by omega) (by decide)]
      omega
    have rm : ev_irem (1000 * (u : Int) + (w : Int)) 1000 = (w : Int) := by
      rw [sp_rem (by omega) (by decide)]
      omega
    obtain ⟨S', T', r1, r2, r3, r4, r5, r6⟩ := span_two (Q := Q' + 1) (x5 := x5) (x6 := 1) (x7 := x7) (x9 := x9) (x242 := 1) (x258 := x258) (a2 := a2) (u := u) (K := KK) hi (by decide) (by decide) hm rm y4 (w - u) (Q' + 1) (Q' + 1) u s S T (by omega) (by omega) (by omega) hF y1 y2 hM h11 (by omega)
    refine ⟨s + (w - u), S', T', _, y5, ?_, ?_, r3, r4, r5.trans h11, r6, by omega⟩
    · unfold jm_53
      rw [if_neg (by omega), sp_if (by decide), sp_b, dv]
      exact r1
    · rw [y6, sp_bd, if_neg (by decide), sp_if (by rw [l79]; omega), sp_b, Int.toNat_natCast, y1]
      exact r2
/-- one sign that stands in the template, or is told by a letter -/
theorem one_put (hM : MD s S T) (h11 : S.1 269 11 = md) (hm : md = 0 ∨ md = 1 ∨ md = 2) (hc : sp_sign c = 1) (hs : s ≤ 1999000) (KT : ev_St → Option (Unit × ev_St)) (KS : ev_St → Option (Unit × ev_St)) : ∃ S' T', (ev_bd (jm_54 Q c S) fun _ s => KS s) = KS S' ∧ (ev_bd (jm_338 Q c md T) fun _ s => KT s) = KT T' ∧ MD (s + 1) S' T' ∧ FRmS S S' ∧ S'.1 269 11 = md ∧ FRmT T T' := by
  obtain ⟨S', T', p1, p2, p3, p4, p5, p6⟩ := md_put (Q := Q) hM h11 hm hc (by omega)
  exact ⟨S', T', by rw [p1, sp_bd], by rw [p2, sp_bd], p3, p4, p5.trans h11, p6⟩
theorem sg_of (h : c = 10 ∨ (32 ≤ c ∧ c ≤ 126)) : sp_sign c = 1 := by
  unfold sp_sign
  exact if_pos h
/-- an item that is alive -/
theorem it_two (hQ : 200 ≤ Q) (hF : FLC Q k p t len n S T) (hk : i < n) (hA : ∀ x : Int, sp_at S (553 + 2 * t) x = (fun x => sp_at S (553 + 2 * t) x) x) (h1 : sp_at S (553 + 2 * t) (i : Int) = c) (h2 : sp_at S (553 + 2 * t) ((i : Int) + 1) = d) (h3 : sp_at S (553 + 2 * t) ((i : Int) + 2) = e) (h4 : sp_at S (553 + 2 * t) ((i : Int) + 3) = f) (hv : tl_is 1 st c d e f = 1) (c63 : c ≠ 63) (c125 : ¬ (0 < st ∧ c = 125)) (c124 : ¬ (0 < st ∧ c = 124)) (hM : MD s S T) (h11 : S.1 269 11 = md) (hm : md = 0 ∨ md = 1 ∨ md = 2) (hs : s ≤ 1990000) (hnum : 1 ≤ num ∧ num ≤ 99) : ∃ s' S' T' md', jm_51 Q (553 + 2 * t + 1) (i : Int) 282 num S = some ((), S') ∧ R340 Q (p : Int) num K md st 1 x7 ((120 * t + i : Nat) : Int) ((120 * t + n : Nat) : Int) c d T = K md' st 1 x7 (((120 * t + i : Nat) : Int) + tl_k c d) ((120 * t + n : Nat) : Int) T' ∧ MD s' S' T' ∧ FRmS S S' ∧ S'.1 269 11 = md' ∧ (md' = 0 ∨ md' = 1 ∨ md' = 2) ∧ FRmT T T' ∧ s ≤ s' ∧ s' ≤ s + 160 := by
  obtain ⟨l36, l38, l79, l80, l78, l00, l01, l26, _⟩ := al_fl
  obtain ⟨g1, g2, g3, g4⟩ := hF.2.2.2.2.2.2
  obtain ⟨b1, b2⟩ := hF.2.1
  have ob := sp_tmp t g1
  have rng : ∀ x : Int, sp_at S (553 + 2 * t) x = -1 ∨ sp_sign (sp_at S (553 + 2 * t) x) = 1 := fun x => by
    unfold sp_at
    by_cases z : 0 ≤ x ∧ x < S.1 (553 + 2 * t) 1
    · rw [if_pos z]
      exact Or.inr (g4 _ (by omega)).2
    · rw [if_neg z]
      exact Or.inl rfl
  have rd : -1 ≤ d ∧ d ≤ 126 := by
    rcases rng ((i : Int) + 1) with y | y
    · omega
    · have := sp_sign_r y
      omega
  have sc : sp_sign c = 1 := by
    rcases rng (i : Int) with y | y
    · exfalso
      unfold sp_at at y
      rw [if_pos (by omega), Int.toNat_natCast] at y
      have q := (g4 i hk).2
      rw [y] at q
      exact absurd q (by decide)
    · rw [h1] at y
      exact y
  have id' : ∀ E : Option (Unit × ev_St), (ev_bd E fun _ s6 => some ((), s6)) = E := fun E => by
    cases E with
    | none => rfl
    | some y => rfl
  have cv := (ch_d_i d)
  have lv := (ch_l_i e)
  have ev := (ch_e_i d)
  unfold tl_is at hv
  rw [if_neg (by decide)] at hv
  have pre : jm_51 Q (553 + 2 * t + 1) (i : Int) 282 num S = if c = 92 then jm_52 Q d num S else if c = 36 then (if d = 123 then (ev_ck (e - 97) fun x28 => ev_bd (jm_120 Q x28 S) fun x31 s30 => if x31 ≠ 0 then (ev_bd (jm_118 Q x31 s30) fun x40 s39 => ev_bd (jm_53 Q 282 x40 s39) fun _ s36 => some ((), s36)) else (ev_bd (jm_53 Q 282 (-3) s30) fun _ s36 => some ((), s36))) else (ev_bd (jm_118 Q (d - 48) S) fun x20 s19 => ev_bd (jm_53 Q 282 x20 s19) fun _ s21 => some ((), s21))) else jm_54 Q c S := by
    unfold jm_51
    rw [sp_if (by omega), show 553 + 2 * t + 1 - 1 = 553 + 2 * t from rfl, sp_151 ob (by omega), sp_bd, sp_ck (by omega), sp_if (by omega), sp_151 ob (by omega), sp_bd, h1, h2]
    simp only [sp_jn]
    by_cases z1 : c = 92
    · rw [if_neg (fun y => y z1), if_pos z1]
      exact id' _
    · rw [if_pos z1, if_neg z1]
      by_cases z2 : c = 36
      · rw [if_neg (fun y => y z2), if_pos z2]
        by_cases z3 : d = 123
        · rw [if_neg (fun y => y z3), if_pos z3, sp_ck (by omega), sp_if (by omega), sp_151 ob (by omega), sp_bd, h3]
          simp only [sp_if (show (282 : Nat) ≠ 0 by decide)]
        · rw [if_pos z3, if_neg z3, if_neg (fun y => y z2), sp_ck (by omega), sp_if (by decide)]
      · rw [if_pos z2, if_neg z2, if_pos z2]
        exact id' _
  rw [pre]
  have p8 : 0 ≤ ((120 * t + i : Nat) : Int) ∧ ((120 * t + i : Nat) : Int) ≤ 1000 := by omega
  by_cases z1 : c = 92
  · subst z1
    have tk : tl_k 92 d = 2 := rfl
    rw [if_pos rfl, r340_92 p8 (by omega), if_neg (show ¬ ((1 : Int) = 0) by decide), tk]
    rw [if_neg (show ¬ ((92 : Int) = 36) by decide), if_pos rfl] at hv
    have b10 : 0 ≤ num % 10 ∧ num % 10 < 10 := ⟨Int.emod_nonneg _ (by decide), Int.emod_lt_of_pos _ (by decide)⟩
    unfold jm_52
    by_cases w1 : d = 85
    · have a1 : ¬ d = 35 := by omega
      have a2 : ¬ d = 69 := by omega
      have a3 : ¬ d = 76 := by omega
      simp only [if_pos w1, if_neg a1, if_neg a2, if_neg a3, sp_b]
      exact ⟨s, ev_pI S 269 11 1, T, 1, rfl, rfl, ⟨hM.1, by rw [rd_nk (by decide)]; exact hM.2.1, fun i a b => by rw [rd_nk (by decide)]; exact hM.2.2 i a b⟩, ⟨fun c g y1 y2 y3 => by rw [sp_pI1, if_neg y3], rfl⟩, rd_eq, Or.inr (Or.inl rfl), FRmT_r, by omega⟩
    · simp only [if_neg w1]
      by_cases w2 : d = 76
      · have a1 : ¬ d = 35 := by omega
        have a2 : ¬ d = 69 := by omega
        simp only [if_pos w2, if_neg a1, if_neg a2, sp_b]
        exact ⟨s, ev_pI S 269 11 2, T, 2, rfl, rfl, ⟨hM.1, by rw [rd_nk (by decide)]; exact hM.2.1, fun i a b => by rw [rd_nk (by decide)]; exact hM.2.2 i a b⟩, ⟨fun c g y1 y2 y3 => by rw [sp_pI1, if_neg y3], rfl⟩, rd_eq, Or.inr (Or.inr rfl), FRmT_r, by omega⟩
      · simp only [if_neg w2]
        by_cases w3 : d = 69
        · have a1 : ¬ d = 35 := by omega
          simp only [if_pos w3, if_neg a1, sp_b]
          exact ⟨s, ev_pI S 269 11 0, T, 0, rfl, rfl, ⟨hM.1, by rw [rd_nk (by decide)]; exact hM.2.1, fun i a b => by rw [rd_nk (by decide)]; exact hM.2.2 i a b⟩, ⟨fun c g y1 y2 y3 => by rw [sp_pI1, if_neg y3], rfl⟩, rd_eq, Or.inl rfl, FRmT_r, by omega⟩
        · simp only [if_neg w3]
          by_cases w4 : d = 35
          · simp only [if_pos w4]
            have rm : ev_irem num 10 = num % 10 := sp_rem (by omega) (by decide)
            have dv : ev_idiv num 10 = num / 10 := sp_div (by omega) (by decide)
            have d9 : 0 ≤ num / 10 ∧ num / 10 ≤ 9 := by omega
            have rm2 : ev_irem (num / 10) 10 = num / 10 := by
              rw [sp_rem (by omega) (by decide)]
              omega
            simp only [sp_jn]
            by_cases w5 : num ≤ 9
            · rw [if_pos w5, if_pos (by omega), sp_if (by decide), sp_b, rm, sp_ck (by omega)]
              obtain ⟨S', T', q1, q2, q3, q4, q5, q6⟩ := one_put (Q := Q) (c := 48 + num % 10) hM h11 hm (sg_of (by omega)) (by omega) (fun s => K md st 1 x7 (((120 * t + i : Nat) : Int) + 2) ((120 * t + n : Nat) : Int) s) (fun s => some ((), s))
              exact ⟨s + 1, S', T', md, q1, q2, q3, q4, q5, hm, q6, by omega⟩
            · rw [if_neg w5, if_neg (by omega), sp_if (by decide), sp_b, dv, sp_if (by decide), sp_b, rm2, sp_ck (by omega)]
              obtain ⟨S1, T1, q1, q2, q3, q4, q5, q6⟩ := one_put (Q := Q) (c := 48 + num / 10) hM h11 hm (sg_of (by omega)) (by omega) (fun s => ev_bd (jm_338 Q (48 + num % 10) md s) fun _ s => K md st 1 x7 (((120 * t + i : Nat) : Int) + 2) ((120 * t + n : Nat) : Int) s) (fun s => ev_if ((10 : Int) ≠ 0) (ev_b (ev_irem num 10) fun x6 => ev_ck (48 + x6) fun x7 => ev_bd (jm_54 Q x7 s) fun _ s8 => some ((), s8)))
              obtain ⟨S', T', r1, r2, r3, r4, r5, r6⟩ := one_put (Q := Q) (c := 48 + num % 10) q3 q5 hm (sg_of (by omega)) (by omega) (fun s => K md st 1 x7 (((120 * t + i : Nat) : Int) + 2) ((120 * t + n : Nat) : Int) s) (fun s => some ((), s))
              refine ⟨s + 1 + 1, S', T', md, ?_, q2.trans r2, r3, FRmS_t q4 r4, r5, hm, FRmT_t q6 r6, by omega⟩
              refine q1.trans ?_
              try dsimp only
              rw [sp_if (by decide), sp_b, rm, sp_ck (by omega)]
              exact r1
          · simp only [if_neg w4]
            by_cases w6 : d = 110
            · simp only [if_pos w6]
              obtain ⟨S', T', q1, q2, q3, q4, q5, q6⟩ := one_put (Q := Q) (c := 10) hM h11 hm (sg_of (Or.inl rfl)) (by omega) (fun s => K md st 1 x7 (((120 * t + i : Nat) : Int) + 2) ((120 * t + n : Nat) : Int) s) (fun s => some ((), s))
              exact ⟨s + 1, S', T', md, q1, q2, q3, q4, q5, hm, q6, by omega⟩
            · simp only [if_neg w6]
              have ce : ch_e d = 1 := by
                split at hv
                · omega
                · omega
              rw [if_neg (by omega)]
              have := ev.1.mp ce
              obtain ⟨S', T', q1, q2, q3, q4, q5, q6⟩ := one_put (Q := Q) (c := d) hM h11 hm (sg_of (by omega)) (by omega) (fun s => K md st 1 x7 (((120 * t + i : Nat) : Int) + 2) ((120 * t + n : Nat) : Int) s) (fun s => some ((), s))
              exact ⟨s + 1, S', T', md, q1, q2, q3, q4, q5, hm, q6, by omega⟩
  · rw [if_neg z1]
    by_cases z2 : c = 36
    · subst z2
      rw [if_pos rfl]
      rw [if_pos rfl] at hv
      by_cases w1 : ch_d d = 1
      · have dr := cv.1.mp w1
        have tk : tl_k 36 d = 2 := by
          unfold tl_k
          rw [if_pos rfl, if_pos w1]
        rw [if_neg (by omega), r340_d p8 dr, if_neg (show ¬ ((1 : Int) = 0) by decide), tk]
        obtain ⟨g, hg⟩ : ∃ g : Nat, d - 48 = (g : Int) := ⟨(d - 48).toNat, by omega⟩
        rw [hg]
        obtain ⟨s', S', T', cd, q1, q2, q3, q4, q5, q6, q7, q8⟩ := grp_put (x5 := st) (x7 := x7) (x9 := ((120 * t + n : Nat) : Int)) (x258 := ((120 * t + i : Nat) : Int) + 2) (a2 := num) (KK := fun b1 b2 b3 b4 b5 s => K b1 b2 b3 b4 b5 ((120 * t + n : Nat) : Int) s) hQ hF (show g < 10 by omega) hM h11 hm hs
        exact ⟨s', S', T', md, by rw [q1, sp_bd, q2, sp_bd], q3, q4, q5, q6, hm, q7, q8⟩
      · have nm : d = 123 ∧ ch_l e = 1 ∧ f = 125 := by
          split at hv
          · omega
          · omega
        obtain ⟨n1, n2, n3⟩ := nm
        have er := lv.1.mp n2
        have tk : tl_k 36 d = 4 := by
          unfold tl_k
          rw [if_pos rfl, if_neg w1]
        have i2 : i + 2 < n := by
          apply Classical.byContradiction
          intro y
          unfold sp_at at h3
          rw [if_neg (by omega)] at h3
          omega
        have e700 : T.1 700 ((((120 * t + i : Nat) : Int) + 2)).toNat = e := by
          rw [show ((((120 * t + i : Nat) : Int) + 2)).toNat = 120 * t + (i + 2) by omega, (g4 (i + 2) i2).1, ← h3]
          unfold sp_at
          rw [if_pos (by omega), show ((i : Int) + 2).toNat = i + 2 by omega]
        obtain ⟨l, hl⟩ : ∃ l : Nat, e - 97 = (l : Int) := ⟨(e - 97).toNat, by omega⟩
        obtain ⟨m1, m2, m3⟩ := hF.2.2.2.1 l (by omega)
        have m9 := hF.2.2.1
        obtain ⟨g, hg⟩ : ∃ g : Nat, T.1 638 (26 * p + l) = (g : Int) := ⟨(T.1 638 (26 * p + l)).toNat, by omega⟩
        have r638 : T.1 638 (26 * (p : Int) + e - 97).toNat = (g : Int) := by
          rw [show (26 * (p : Int) + e - 97).toNat = 26 * p + l by omega]
          exact hg
        rw [if_pos n1, r340_n p8 n1 e700 er (by omega) (by omega) r638, tk, sp_ck (by omega), hl]
        have c120 : jm_120 Q (l : Int) S = some ((g : Int), S) := by
          unfold jm_120
          rw [if_neg (by omega), if_neg (by omega), sp_b, hF.1.1, sp_if (by omega), show k + 1 - 1 = k from rfl, sp_if (by rw [b1, l26 p b2]; omega), sp_b, Int.toNat_natCast, m1, hg]
        rw [c120, sp_bd]
        by_cases w2 : g = 0
        · subst w2
          obtain ⟨Q', rfl⟩ : ∃ r, Q = r + 1 := ⟨Q - 1, by omega⟩
          rw [if_neg (fun y => y rfl), if_pos (show ((0 : Nat) : Int) ≤ 0 ∨ (1 : Int) = 0 from Or.inl (Int.le_refl _)), sp_b, j193_stop (Or.inl (if_pos (show ((0 : Nat) : Int) ≤ 0 from Int.le_refl _)))]
          refine ⟨s, S, T, md, ?_, rfl, hM, FRmS_r, h11, hm, FRmT_r, by omega⟩
          unfold jm_53
          rw [if_pos (by decide), sp_bd]
        · rw [if_pos (by omega), if_neg (fun y => y.elim (fun y => by omega) (fun y => by cases y))]
          obtain ⟨s', S', T', cd, q1, q2, q3, q4, q5, q6, q7, q8⟩ := grp_put (x5 := st) (x7 := x7) (x9 := ((120 * t + n : Nat) : Int)) (x258 := ((120 * t + i : Nat) : Int) + 4) (a2 := num) (KK := fun b1 b2 b3 b4 b5 s => K b1 b2 b3 b4 b5 ((120 * t + n : Nat) : Int) s) hQ hF (show g < 10 by omega) hM h11 hm hs
          exact ⟨s', S', T', md, by rw [q1, sp_bd, q2, sp_bd], q3, q4, q5, q6, hm, q7, q8⟩
    · rw [if_neg z2, r340_chr z2 z1 c63 p8, if_neg c125, if_neg (fun y => c124 ⟨by omega, y.2⟩), if_neg (by decide)]
      have tk : tl_k c d = 1 := by
        unfold tl_k
        rw [if_neg z2, if_neg z1, if_neg c63]
      rw [tk]
      obtain ⟨S', T', q1, q2, q3, q4, q5, q6⟩ := one_put (Q := Q) (c := c) hM h11 hm sc (by omega) (fun s => K md st 1 x7 (((120 * t + i : Nat) : Int) + 1) ((120 * t + n : Nat) : Int) s) (fun s => some ((), s))
      exact ⟨s + 1, S', T', md, (id' _).symm.trans q1, q2, q3, q4, q5, hm, q6, by omega⟩
end OSA
