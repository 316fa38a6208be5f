/-! MENDING: a template is filled in -/
section ORY
variable {Q p k t n m i j len s : Nat} {S S2 S' T T2 T' U V : ev_St} {a c d e f v x md al st x7 num : Int}
/-- what filling reads -/
def FLC (Q k p t len n : Nat) (S T : ev_St) : Prop := (S.2.2.1 281 0 = k + 1 ∧ S.2.2.1 281 1 = 270 + 1) ∧ (k = 313 + 20 * p ∧ p < 12) ∧ (S.1 k 12 = T.1 636 p ∧ 0 ≤ T.1 636 p ∧ T.1 636 p ≤ 9) ∧ (∀ l, l < 26 → S.1 (k + 11) l = T.1 638 (26 * p + l) ∧ 0 ≤ T.1 638 (26 * p + l) ∧ T.1 638 (26 * p + l) ≤ T.1 636 p) ∧ (∀ i, i < 10 → GRP Q i (T.1 679 i) (T.1 680 i) S) ∧ (S.1 270 1 = (len : Int) ∧ T.1 621 73 = (len : Int) ∧ len ≤ 160 ∧ ∀ i, i < len → S.1 271 i = T.1 678 i ∧ sp_sign (S.1 271 i) = 1) ∧ (t < 8 ∧ S.1 (553 + 2 * t) 1 = (n : Int) ∧ n ≤ 120 ∧ ∀ g, g < n → T.1 700 (120 * t + g) = S.1 (553 + 2 * t + 1) g ∧ sp_sign (S.1 (553 + 2 * t + 1) g) = 1)
theorem FLC_c (h : FLC Q k p t len n S T) (h1 : FRmS S S') (h2 : FRmT T T') : FLC Q k p t len n S' T' := by
  obtain ⟨⟨a1, a2⟩, ⟨b1, b2⟩, c1, d1, e1, ⟨f1, f2, f3, f4⟩, g1, g2, g3, g4⟩ := h
  have sI : ∀ c g, ¬ (269 ≤ c ∧ c ≤ 273 ∧ c ≠ 270 ∧ c ≠ 271) → S'.1 c g = S.1 c g := fun c g y => h1.1 c g (by omega) (by omega) (by omega)
  have tI : ∀ c g, c ≠ 702 → ¬ (c = 621 ∧ g = 113) → T'.1 c g = T.1 c g := fun c g y1 y2 => h2.1 c g y2 y1
  refine ⟨⟨by rw [h1.2]; exact a1, by rw [h1.2]; exact a2⟩, ⟨b1, b2⟩, ?_, fun l hl => ?_, fun i hi => ?_, ⟨by rw [sI _ _ (by omega)]; exact f1, by rw [tI _ _ (by omega) (by omega)]; exact f2, f3, fun i hi => by rw [sI _ _ (by omega), tI _ _ (by omega) (by omega)]; exact f4 i hi⟩, g1, by rw [sI _ _ (by omega)]; exact g2, g3, fun g hg => by rw [sI _ _ (by omega), tI _ _ (by omega) (by omega)]; exact g4 g hg⟩
  · rw [sI _ _ (by omega), tI _ _ (by omega) (by omega)]
    exact c1
  · rw [sI _ _ (by omega), tI _ _ (by omega) (by omega), tI _ _ (by omega) (by omega)]
    exact d1 l hl
  · rw [tI _ _ (by omega) (by omega), tI _ _ (by omega) (by omega)]
    have jc : ∀ {y : Int}, jm_118 Q (i : Int) S = some (y, S) → jm_118 Q (i : Int) S' = some (y, S') := fun hj => j118_c (fun c g y1 y2 => sI c g (by omega)) hj
    rcases e1 i hi with ⟨y1, y2⟩ | ⟨y1, y2, y3, y4, y5, y6⟩
    · exact Or.inl ⟨y1, jc y2⟩
    · refine Or.inr ⟨y1, y2, jc y3, ?_, y5, ?_⟩
      · rw [h1.2, a1, show k + 1 - 1 = k from rfl, sI _ _ (by omega)]
        rw [a1] at y4
        exact y4
      · rw [h1.2, a2, show 270 + 1 - 1 = 270 from rfl, sI _ _ (by omega)]
        rw [a2] at y6
        exact y6
theorem al_fl : ev_aln 636 = 13 ∧ ev_aln 638 = 338 ∧ ev_aln 679 = 10 ∧ ev_aln 680 = 10 ∧ ev_aln 678 = 400 ∧ ev_aln 700 = 960 ∧ ev_aln 701 = 8 ∧ (∀ q, q < 12 → ev_aln (313 + 20 * q + 11) = 26) ∧ ev_isOb 270 10 = true := by decide +kernel
/-- whether a group is had, on both sides -/
theorem grp_two (h : FLC Q k p t len n S T) (hi : i < 10) : (jm_118 Q (i : Int) S = some (-3, S) ∧ jm_339 Q (p : Int) (i : Int) T = some (0, T)) ∨ ∃ u w : Nat, T.1 679 i = (u : Int) ∧ T.1 680 i = (w : Int) ∧ u ≤ w ∧ w ≤ len ∧ jm_118 Q (i : Int) S = some (1000 * (u : Int) + (w : Int), S) ∧ jm_339 Q (p : Int) (i : Int) T = some (1, T) := by
  obtain ⟨⟨a1, a2⟩, ⟨b1, b2⟩, c1, d1, e1, ⟨f1, f2, f3, f4⟩, _⟩ := h
  obtain ⟨l36, l38, l79, l80, _⟩ := al_fl
  have j : jm_339 Q (p : Int) (i : Int) T = if T.1 636 p < (i : Int) then some (0, T) else if T.1 679 i = -1 then some (0, T) else some (1, T) := by
    unfold jm_339
    rw [sp_if (by rw [l36]; omega), sp_b, Int.toNat_natCast, sp_if (by rw [l79]; omega), sp_b, Int.toNat_natCast]
  rcases e1 i hi with ⟨y1, y2⟩ | ⟨y1, y2, y3, y4, y5, y6⟩
  · refine Or.inl ⟨y2, ?_⟩
    rw [j]
    by_cases z : T.1 636 p < (i : Int)
    · rw [if_pos z]
    · rw [if_neg z, if_pos y1]
  · rw [a1, show k + 1 - 1 = k from rfl] at y4
    rw [a2, show 270 + 1 - 1 = 270 from rfl, f1] at y6
    refine Or.inr ⟨(T.1 679 i).toNat, (T.1 680 i).toNat, by omega, by omega, by omega, by omega, ?_, ?_⟩
    · rw [y3, show (((T.1 679 i).toNat : Nat) : Int) = T.1 679 i by omega, show (((T.1 680 i).toNat : Nat) : Int) = T.1 680 i by omega]
    · rw [j, if_neg (by omega), if_neg (by omega)]
/-- nothing of a group is put -/
theorem j193_stop {x4 x5 x6 x7 x9 x225 x242 x258 x273 pp a2 : Int} {q : Nat} {K : Int → Int → Int → Int → Int → ev_St → Option (Unit × ev_St)} (h : x242 = 0 ∨ x6 = 0 ∨ jm_339 Q pp x225 T = some (0, T)) : jl_340_193 Q pp a2 x4 x5 x6 x7 x9 x225 x242 x258 K (q + 1) x273 T = K x4 x5 x6 x7 x258 T := by
  show jb_340_193 Q pp a2 x4 x5 x6 x7 x9 x225 x242 x258 K _ x273 T = _
  unfold jb_340_193
  rw [sp_jn]
  by_cases z1 : x242 = 0
  · rw [if_pos z1]
  · rw [if_neg z1]
    by_cases z2 : x6 = 0
    · rw [if_pos z2]
    · rw [if_neg z2]
      rcases h with h | h | h
      · exact absurd h z1
      · exact absurd h z2
      · rw [h, sp_bd, if_pos rfl]
/-- what a group had is put, on both sides -/
theorem span_two {x5 x6 x9 x242 x258 a2 code : Int} {u w : Nat} {K : Int → Int → Int → Int → Int → ev_St → Option (Unit × ev_St)} (hi : i < 10) (h1 : x242 ≠ 0) (h2 : x6 ≠ 0) (hm : md = 0 ∨ md = 1 ∨ md = 2) (hc : ev_irem code 1000 = (w : Int)) (hw : w ≤ len) : ∀ (r q q2 y s : Nat) (S T : ev_St), y + r = w → r < q → r < q2 → FLC Q k p t len n S T → T.1 679 i = (u : Int) → T.1 680 i = (w : Int) → MD s S T → S.1 269 11 = md → s + r ≤ 2000000 → ∃ S' T', jl_53_10 Q 282 code q (y : Int) S = some ((), S') ∧ jl_340_193 Q (p : Int) a2 md x5 x6 x7 x9 (i : Int) x242 x258 K q2 (y : Int) T = K md x5 x6 x7 x258 T' ∧ MD (s + r) S' T' ∧ FRmS S S' ∧ S'.1 269 11 = S.1 269 11 ∧ FRmT T T' := fun r => by
  obtain ⟨l36, l38, l79, l80, l78, l00, l01, _, o70⟩ := al_fl
  induction r with
  | zero =>
    intro q q2 y s S T e1 e2 e3 hF g1 g2 hM h11 hs
    obtain ⟨q, rfl⟩ : ∃ r, q = r + 1 := ⟨q - 1, by omega⟩
    obtain ⟨q2, rfl⟩ : ∃ r, q2 = r + 1 := ⟨q2 - 1, by omega⟩
    have has : jm_339 Q (p : Int) (i : Int) T = some (1, T) := by
      rcases grp_two hF hi with ⟨_, y2⟩ | ⟨_, _, _, _, _, _, _, y⟩
      · rcases hF.2.2.2.2.1 i hi with ⟨z, _⟩ | ⟨_, _, _, z4, _⟩
        · omega
        · exfalso
          rw [hF.1.1, show k + 1 - 1 = k from rfl] at z4
          have := hF.2.2.1
          have q := y2
          unfold jm_339 at q
          rw [sp_if (by rw [l36]; have := hF.2.1.2; omega), sp_b, Int.toNat_natCast, if_neg (by omega), sp_if (by rw [l79]; omega), sp_b, Int.toNat_natCast, if_neg (by omega)] at q
          injection q with q
          injection q with q
          cases q
      · exact y
    refine ⟨S, T, ?_, ?_, hM, FRmS_r, rfl, FRmT_r⟩
    · show jb_53_10 Q 282 code _ _ S = _
      unfold jb_53_10
      rw [sp_if (by decide), sp_b, hc, if_pos (by omega)]
    · show jb_340_193 Q (p : Int) a2 md x5 x6 x7 x9 (i : Int) x242 x258 K _ _ T = _
      unfold jb_340_193
      rw [sp_jn, if_neg h1, if_neg h2, has, sp_bd, if_neg (by decide), sp_if (by rw [l80]; omega), sp_b, Int.toNat_natCast, g2, if_pos (by omega)]
  | succ r ih =>
    intro q q2 y s S T e1 e2 e3 hF g1 g2 hM h11 hs
    obtain ⟨q, rfl⟩ : ∃ r, q = r + 1 := ⟨q - 1, by omega⟩
    obtain ⟨q2, rfl⟩ : ∃ r, q2 = r + 1 := ⟨q2 - 1, by omega⟩
    have has : jm_339 Q (p : Int) (i : Int) T = some (1, T) := by
      rcases grp_two hF hi with ⟨_, y2⟩ | ⟨_, _, _, _, _, _, _, y⟩
      · rcases hF.2.2.2.2.1 i hi with ⟨z, _⟩ | ⟨_, _, _, z4, _⟩
        · omega
        · exfalso
          rw [hF.1.1, show k + 1 - 1 = k from rfl] at z4
          have := hF.2.2.1
          have q := y2
          unfold jm_339 at q
          rw [sp_if (by rw [l36]; have := hF.2.1.2; omega), sp_b, Int.toNat_natCast, if_neg (by omega), sp_if (by rw [l79]; omega), sp_b, Int.toNat_natCast, if_neg (by omega)] at q
          injection q with q
          injection q with q
          cases q
      · exact y
    obtain ⟨f1, f2, f3, f4⟩ := hF.2.2.2.2.2.1
    obtain ⟨c1, c2⟩ := f4 y (by omega)
    obtain ⟨S1, T1, p1, p2, p3, p4, p5, p6⟩ := md_put (Q := Q) (c := S.1 271 y) (md := md) hM h11 hm c2 (by omega)
    obtain ⟨S', T', r1, r2, r3, r4, r5, r6⟩ := ih q q2 (y + 1) (s + 1) S1 T1 (by omega) (by omega) (by omega) (FLC_c hF p4 p6) (by rw [p6.1 _ _ (by omega) (by omega)]; exact g1) (by rw [p6.1 _ _ (by omega) (by omega)]; exact g2) p3 (by rw [p5]; exact h11) (by omega)
    have at' : sp_at S 270 (y : Int) = S.1 271 y := by
      unfold sp_at
      rw [if_pos (by omega), Int.toNat_natCast]
    refine ⟨S', T', ?_, ?_, by rw [show s + (r + 1) = s + 1 + r by omega]; exact r3, FRmS_t p4 r4, r5.trans p5, FRmT_t p6 r6⟩
    · show jb_53_10 Q 282 code (jl_53_10 Q 282 code q) _ S = _
      unfold jb_53_10
      rw [sp_if (by decide), sp_b, hc, if_neg (by omega), sp_if (by decide)]
      have c119 : jm_119 Q (y : Int) S = some (S.1 271 y, S) := by
        unfold jm_119
        rw [sp_b, hF.1.2, sp_if (by decide), show 270 + 1 - 1 = 270 from rfl, sp_151 o70 (by omega), sp_bd, at']
      rw [c119, sp_bd, p1, sp_bd, sp_ck (by omega), show (y : Int) + 1 = ((y + 1 : Nat) : Int) by omega]
      exact r1
    · show jb_340_193 Q (p : Int) a2 md x5 x6 x7 x9 (i : Int) x242 x258 K (jl_340_193 Q (p : Int) a2 md x5 x6 x7 x9 (i : Int) x242 x258 K q2) _ T = _
      unfold jb_340_193
      rw [sp_jn, if_neg h1, if_neg h2, has, sp_bd, if_neg (by decide), sp_if (by rw [l80]; omega), sp_b, Int.toNat_natCast, g2, if_neg (by omega), sp_if (by rw [l78]; omega), sp_b, Int.toNat_natCast, ← c1, p2, sp_bd, sp_ck (by omega), show (y : Int) + 1 = ((y + 1 : Nat) : Int) by omega]
      exact r2
/-- one turn of the reference's filling, once two signs are read -/
def R340 (Q : Nat) (a0 : Int) (a2 : Int) (K29 : Int → Int → Int → Int → Int → Int → ev_St → Option ((Unit) × ev_St)) (x4 : Int) (x5 : Int) (x6 : Int) (x7 : Int) (x8 : Int) (x9 : Int) (x24 : Int) (x25 : Int) (s37 : ev_St) : Option ((Unit) × ev_St) := ev_ck (x8 + 1) fun x38 => ev_jn (fun (x39 : Int) (x40 : Int) (x41 : Int) (x42 : Int) (x43 : Int) (s54 : ev_St) => K29 x39 x40 x41 x42 x43 x9 s54) fun K498 => if x24 ≠ 36 then (if x24 ≠ 92 then (if x24 ≠ 63 then (ev_jn (fun  (s69 : ev_St) => ev_jn (fun  (s81 : ev_St) => if x6 = 0 then (K498 x4 x5 x6 x7 x38 s81) else (ev_bd (jm_338 Q x24 x4 s81) fun _ s83 => K498 x4 x5 x6 x7 x38 s83)) fun K485 => if x5 ≠ 1 then (K485  s69) else (if x24 ≠ 124 then (K485  s69) else (ev_jn (fun (x86 : Int) (s95 : ev_St) => K498 x4 2 x86 x7 x38 s95) fun K477 => if x7 ≠ 0 then (K477 0 s69) else (K477 1 s69)))) fun K454 => if x5 ≤ 0 then (K454  s37) else (if x24 ≠ 125 then (K454  s37) else (K498 x4 0 1 x7 x38 s37))) else (ev_ck (x25 - 48) fun x99 => ev_bd (jm_339 Q a0 x99 s37) fun x101 s100 => ev_ck (x38 + 2) fun x102 => K498 x4 1 x101 x101 x102 s100)) else (ev_ck (x38 + 1) fun x103 => ev_jn (fun (x104 : Int) (s116 : ev_St) => ev_jn (fun  (s128 : ev_St) => if x6 = 0 then (K498 x4 x5 x6 x7 x104 s128) else (ev_jn (fun  (s141 : ev_St) => ev_jn (fun (x142 : Int) (s153 : ev_St) => ev_bd (jm_338 Q x142 x4 s153) fun _ s154 => K498 x4 x5 x6 x7 x104 s154) fun K393 => if x25 ≠ 110 then (K393 x25 s141) else (K393 10 s141)) fun K378 => if x25 = 110 then (K378  s128) else (ev_bd (jm_228 Q x25 s128) fun x158 s157 => if x158 = 0 then (K498 x4 x5 x6 x7 x104 s157) else (K378  s157)))) fun K358 => if x6 = 0 then (K358  s116) else (if x25 ≠ 35 then (K358  s116) else (ev_jn (fun  (s172 : ev_St) => ev_if (10 ≠ 0) (ev_b (ev_irem a2 10) fun x173 => ev_ck (48 + x173) fun x174 => ev_bd (jm_338 Q x174 x4 s172) fun _ s175 => K498 x4 x5 x6 x7 x104 s175)) fun K342 => if a2 ≤ 9 then (K342  s116) else (ev_if (10 ≠ 0) (ev_b (ev_idiv a2 10) fun x177 => ev_ck (48 + x177) fun x178 => ev_bd (jm_338 Q x178 x4 s116) fun _ s179 => K342  s179))))) fun K311 => if x6 = 0 then (K311 x103 s37) else (ev_jn (fun  (s191 : ev_St) => ev_jn (fun (x192 : Int) (s202 : ev_St) => K498 x192 x5 x6 x7 x103 s202) fun K306 => if x25 ≠ 85 then (if x25 ≠ 76 then (K306 0 s191) else (K306 2 s191)) else (K306 1 s191)) fun K283 => if x25 = 85 then (K283  s37) else (if x25 = 76 then (K283  s37) else (if x25 ≠ 69 then (K311 x103 s37) else (K283  s37)))))) else (ev_bd (jm_226 Q x25 s37) fun x209 s208 => ev_jn (fun (x210 : Int) (s222 : ev_St) => ev_bd (jm_226 Q x25 s222) fun x224 s223 => ev_jn (fun (x225 : Int) (x226 : Int) (s239 : ev_St) => ev_bd (jm_226 Q x25 s239) fun x241 s240 => ev_jn (fun (x242 : Int) (x244 : Int) (x243 : Int) (s256 : ev_St) => ev_ck (x243 + x244) fun x257 => ev_jn (fun (x258 : Int) (x259 : Int) (s272 : ev_St) => jl_340_193 Q a0 a2 x4 x5 x6 x7 x9 x225 x242 x258 K498 Q x259 s272) fun K191 => ev_jn (fun (x309 : Int) (s322 : ev_St) => ev_b (s322.1 621 73) fun x323 => K191 x309 x323 s322) fun K187 => if x242 = 0 then (K187 x257 s256) else (if x6 = 0 then (K187 x257 s256) else (ev_bd (jm_339 Q a0 x225 s256) fun x327 s326 => if x327 = 0 then (K187 x257 s326) else (ev_if ((0 : Int) ≤ x225 ∧ x225 < (ev_aln 679 : Int)) (ev_b (s326.1 679 (Int.toNat x225)) fun x329 => K191 x257 x329 s326))))) fun K154 => if x241 = 0 then (K154 x226 3 x38 s240) else (K154 x226 1 x38 s240)) fun K137 => ev_jn (fun (x331 : Int) (s344 : ev_St) => K137 x331 1 s344) fun K132 => if x224 ≠ 0 then (K132 x210 s223) else (if x210 ≤ 0 then (K137 x210 0 s223) else (K132 x210 s223))) fun K117 => if x209 = 0 then (ev_ck (26 * a0) fun x348 => ev_ck (x38 + 1) fun x349 => ev_if ((0 : Int) ≤ x349 ∧ x349 < (ev_aln 700 : Int)) (ev_b (s208.1 700 (Int.toNat x349)) fun x350 => ev_ck (x348 + x350) fun x351 => ev_ck (x351 - 97) fun x352 => ev_if ((0 : Int) ≤ x352 ∧ x352 < (ev_aln 638 : Int)) (ev_b (s208.1 638 (Int.toNat x352)) fun x353 => K117 x353 s208))) else (ev_ck (x25 - 48) fun x354 => K117 x354 s208))
theorem r340_in {K29 : Int → Int → Int → Int → Int → Int → ev_St → Option (Unit × ev_St)} {a0 a2 x4 x5 x6 x7 : Int} (hF : FLC Q k p t len n S T) (hk : i < n) : jb_340_29 Q a0 a2 K29 x4 x5 x6 x7 ((120 * t + i : Nat) : Int) ((120 * t + n : Nat) : Int) T = R340 Q a0 a2 K29 x4 x5 x6 x7 ((120 * t + i : Nat) : Int) ((120 * t + n : Nat) : Int) (sp_at S (553 + 2 * t) (i : Int)) (sp_at S (553 + 2 * t) ((i : Int) + 1)) T := by
  obtain ⟨l36, l38, l79, l80, l78, l00, l01, _⟩ := al_fl
  obtain ⟨g1, g2, g3, g4⟩ := hF.2.2.2.2.2.2
  have at0 : sp_at S (553 + 2 * t) (i : Int) = T.1 700 (120 * t + i) := by
    unfold sp_at
    rw [if_pos (by omega), Int.toNat_natCast]
    exact (g4 i hk).1.symm
  unfold jb_340_29
  rw [if_neg (by omega), sp_if (by rw [l00]; omega), sp_b, Int.toNat_natCast, sp_ck (by omega), sp_jn, at0]
  by_cases z : i + 1 < n
  · have at1 : sp_at S (553 + 2 * t) ((i : Int) + 1) = T.1 700 (120 * t + (i + 1)) := by
      unfold sp_at
      rw [if_pos (by omega), show ((i : Int) + 1).toNat = i + 1 by omega]
      exact (g4 (i + 1) z).1.symm
    rw [if_neg (by omega), sp_ck (by omega), sp_if (by rw [l00]; omega), sp_b, show (((120 * t + i : Nat) : Int) + 1).toNat = 120 * t + (i + 1) by omega, at1]
    rfl
  · have at1 : sp_at S (553 + 2 * t) ((i : Int) + 1) = -1 := by
      unfold sp_at
      rw [if_neg (by omega)]
    rw [if_pos (by omega), at1]
    rfl
/-- a valid item: how many signs it has -/
theorem tl_nk (h : tl_is 1 st c d e f = 1) (hs : st = 0 ∨ st = 1 ∨ st = 2) : tl_n c d e f (if st ≤ 0 then 0 else 1) = tl_k c d := by
  have i1 := ch_d_i d
  have i2 := ch_l_i e
  have i3 := ch_e_i d
  obtain ⟨s0, hs0, is0⟩ : ∃ s0 : Int, (if st ≤ 0 then (0 : Int) else 1) = s0 ∧ ((s0 = 0 ∧ st ≤ 0) ∨ (s0 = 1 ∧ 0 < st)) := by
    split
    · exact ⟨0, rfl, by omega⟩
    · exact ⟨1, rfl, by omega⟩
  rw [hs0]
  unfold tl_is at h
  unfold tl_n tl_k
  generalize ch_d d = d1 at i1 h ⊢
  generalize ch_l e = e1 at i2 h ⊢
  generalize ch_e d = d2 at i3 h ⊢
  rw [if_neg (show ¬ ((1 : Int) = 0) by decide)] at h
  by_cases c36 : c = 36
  · subst c36
    simp only [if_true, if_false, show ¬ ((36 : Int) = 92) by decide, show ¬ ((36 : Int) = 63) by decide, show ¬ ((36 : Int) = 125) by decide, show ¬ ((36 : Int) = 124) by decide, and_false, false_and, or_false] at h ⊢
    (repeat' split) <;> (try split at h) <;> first | omega | (simp only [and_true, true_and] at h; omega)
  · by_cases c92 : c = 92
    · subst c92
      simp only [if_true, if_false, show ¬ ((92 : Int) = 36) by decide, show ¬ ((92 : Int) = 63) by decide, show ¬ ((92 : Int) = 125) by decide, show ¬ ((92 : Int) = 124) by decide, and_false, false_and, or_false] at h ⊢
      (repeat' split) <;> (try split at h) <;> first | omega | (simp only [and_true, true_and] at h; omega)
    · by_cases c63 : c = 63
      · subst c63
        simp only [if_true, if_false, show ¬ ((63 : Int) = 36) by decide, show ¬ ((63 : Int) = 92) by decide, show ¬ ((63 : Int) = 125) by decide, show ¬ ((63 : Int) = 124) by decide, and_false, false_and, or_false] at h ⊢
        (repeat' split) <;> (try split at h) <;> first | omega | (simp only [and_true, true_and] at h; omega)
      · simp only [if_neg c36, if_neg c92, if_neg c63]
end ORY
