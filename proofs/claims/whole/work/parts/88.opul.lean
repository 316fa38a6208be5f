/-! THE READER: parts in brackets -/
section RPAR
variable {Q k n m w d N M D lv t : Nat} {φ ψ own inn G R ws y : Nat → Nat} {P q : Nat → Int} {S T S0 T0 S1 S' S2 T2 T1 T3 U : ev_St}
theorem sp_103 {a kd gr r : Int} (hr : U.1 3 8 = r ∧ 0 ≤ r + a ∧ r + a ≤ 1000) (hc : 0 ≤ U.1 3 14 ∧ U.1 3 14 ≤ 1000) (hd : U.1 3 10 = (D : Int)) (hD : D + 1 < 152) : (150 ≤ U.1 3 14 ∧ ∃ S', jm_103 Q a kd gr U = some (0, S')) ∨ (U.1 3 14 < 150 ∧ ∃ S', jm_103 Q a kd gr U = some (1, S') ∧ BGc (D + 1) kd gr 0 (ev_pI (ev_pI U 3 8 (r + a)) 3 14 (U.1 3 14 + 1)) S') := by
  have e : (ev_pI U 3 8 (r + a)).1 3 14 = U.1 3 14 := rd_nf (by omega)
  unfold jm_103
  rw [sp_b, hr.1, sp_ck (by omega), sp_b, sp_87 (by rw [e]; omega), e]
  by_cases z : 150 ≤ U.1 3 14
  · rw [if_pos z, sp_bd, if_pos rfl]
    exact Or.inl ⟨z, _, rfl⟩
  · rw [if_neg z, sp_bd, if_neg (by decide)]
    obtain ⟨S', s1, s2, s3, s4, s5⟩ := sp_98 (Q := Q) (a := kd) (b := gr) (c := 0) (d := D + 1) (S := ev_pI (ev_pI U 3 8 (r + a)) 3 14 (U.1 3 14 + 1)) (by rw [rd_nf (by omega), rd_nf (by omega), hd]; omega) hD (Or.inl rfl)
    rw [s1, sp_bd, if_neg (by decide)]
    exact Or.inr ⟨by omega, S', rfl, s2, s3, s4, s5⟩
/-- both open a part that is no group -/
theorem tk_openB {x : Int} (c ng f : Int) {p : Int} (H : RIy k lv ws N M D φ ψ own inn G R y P q S T) (hkr : 232 ≤ k) (hp : T.1 645 lv + cst c ≤ p ∧ p ≤ S.1 (ws lv) 1) (hc : 9 ≤ c ∧ c ≤ 13) (hx : x = kcl c f) (hf4 : 0 ≤ f ∧ f ≤ 4) (hng : c = 13 → 1 ≤ ng ∧ ng ≤ 9) (hn9 : c = 9 → ng = 0) : ∃ T1, jm_237 Q c (ev_pI T 645 lv p) = some ((N : Int), T1) ∧ (T1.1 628 (3840 + N) = 0 ∧ T1.1 629 (3840 + N) = 0) ∧ ∀ T2, (T2.1 628 (3840 + N) = ng ∧ T2.1 629 (3840 + N) = f) → (∀ a g, ¬ ((a = 628 ∨ a = 629) ∧ g = 3840 + N) → T2.1 a g = T1.1 a g) → T2.2 = T1.2 → ∃ T3, jm_239 Q (N : Int) 0 T2 = some ((), T3) ∧ (150 ≤ T.1 621 27 → T3.1 621 25 = 1) ∧ (T.1 621 27 < 150 → ∀ S' yv, (c = 13 → yv = ng) → BGc (D + 1) x yv 0 (ev_pI (ev_pI S 3 8 p) 3 14 (S.1 3 14 + 1)) S' → RIa k lv ws S' T3 ∧ TKp lv p S T S' T3) := by
  have p0 := H.1.2.1.2.2.2.1 lv (Nat.le_refl _)
  have mv : MVd lv p S T (ev_pI S 3 8 p) (ev_pI T 645 lv p) := mv_pI
  obtain ⟨T1, t1, u⟩ := tk_add (Q := Q) c H.1 hkr mv (by omega)
  obtain ⟨n1, n2, n3, n4, n5, n6⟩ := RIy_n H.1
  have hR := H.1.1.1
  have e4 := hR.1.2.2.2.1
  have e27 : (ev_pI T 645 lv p).1 621 27 = T.1 621 27 := rd_nk (by omega)
  have e25 : (ev_pI T 645 lv p).1 621 25 = 0 := (rd_nk (by omega)).trans H.1.2.2.2.2.2.2.2
  have e31 : T1.1 621 31 = T.1 621 31 := by rw [ADr_o u (by omega) (by omega) (by omega), rd_nk (by omega)]
  refine ⟨T1, t1, ⟨u.2.1.2.2.2.1, u.2.1.2.2.2.2.1⟩, fun T2 w1 w2 w3 => ?_⟩
  obtain ⟨T3, t3, hO⟩ := sp_239 (Q := Q) (T := T2) (d := D + 1) (m := N + 1) (n := N) (tx := 0) (by rw [w2 _ _ (by omega), e31, e4]; omega) (by omega) (by rw [w2 _ _ (by omega), u.1.1]; omega) (by omega) (by omega) (Or.inl rfl)
  have hO : OPr (D + 1) N (N + 1) 0 T2 T3 := hO
  have v25 : T3.1 621 25 = if T.1 621 27 < 150 then 0 else 1 := by
    rw [hO.2.2.2.2.1 _ _ (by omega) (by omega) (by omega) (by omega) (by omega), w2 _ _ (by omega), u.1.2.2.1, e25, e27]
    by_cases z : T.1 621 27 < 150
    · rw [if_pos z, if_pos ⟨rfl, z⟩]
    · rw [if_neg z, if_neg (fun y => z y.2)]
  refine ⟨T3, t3, fun z => by rw [v25, if_neg (by omega)], fun z S' yv hy s => ?_⟩
  have h0 := RIb_mv H.1 hkr mv (by omega)
  obtain ⟨s0, rc, hs, hrc, k1, k2, k3⟩ := RDR_lk h0.1.1
  have f1 := u.2.2.1
  rw [k1, k2] at f1
  have hO' := hO
  obtain ⟨⟨p1, p2, p3, p4, p5⟩, ⟨o1, o2, o3, o4, o5⟩, ⟨r1, r2, r3, r4, r5, r6⟩, g1, g2, g3, g4⟩ := hO
  have off := fun {e f : Nat} => op_off (e := e) (f := f) u (fun a g h _ _ _ => w2 a g h) hO'
  have s' := s
  obtain ⟨⟨b1, b2, b3, b4, b5⟩, ⟨b6, b7⟩, b8, b9⟩ := s
  refine tk_openA (S1 := ev_pI (ev_pI S 3 8 p) 3 14 (S.1 3 14 + 1)) (yv := yv) (ng := ng) H hkr mv hp (by omega) hx (by omega) (by rw [e27]; exact z) (fun x g h1 h2 h3 => by rw [sp_pI1, if_neg h1]) (by rw [rd_nk (by omega)]) (by rw [rd_eq, rd_nf (by omega)]) rfl u w1 (fun a g h _ _ _ => w2 a g h) w3 hO' s' (RIg_open (c := c) h0.1.1 h0.2.2.1 hkr (by omega) ⟨?_, fun g => ?_, fun g => ?_⟩ (fun g => ⟨?_, ?_, ?_⟩) (fun g hg => ⟨?_, ?_⟩) ?_) ?_ (fun a g h => w2 a g (by omega))
  · rw [b8 _ _ (by omega) (by omega), rd_nk (by omega)]
  · rw [b8 _ _ (by omega) (by omega), rd_nk (by omega)]
  · rw [b8 _ _ (by omega) (by omega), rd_nk (by omega)]
  · rw [g2 _ _ (by omega) (by omega) (by omega) (by omega) (by omega), w2 _ _ (by omega), f1 _ _ (by omega) (by omega) (by omega) (by omega)]
  · rw [g2 _ _ (by omega) (by omega) (by omega) (by omega) (by omega), w2 _ _ (by omega), f1 _ _ (by omega) (by omega) (by omega) (by omega)]
  · rw [g2 _ _ (by omega) (by omega) (by omega) (by omega) (by omega), w2 _ _ (by omega), f1 _ _ (by omega) (by omega) (by omega) (by omega)]
  · rw [g2 _ _ (by omega) (by omega) (by omega) (by omega) (by omega), w2 _ _ (by omega), f1 _ _ (by omega) (by omega) (by omega) (by omega)]
  · rw [g2 _ _ (by omega) (by omega) (by omega) (by omega) (by omega), w2 _ _ (by omega), f1 _ _ (by omega) (by omega) (by omega) (by omega)]
  · rw [g2 _ _ (by omega) (by omega) (by omega) (by omega) (by omega), w2 _ _ (by omega), u.2.1.1]
  · refine RV_open H.2.2.1.2.2.2 (fun c m a b x y hm => ?_) (fun m c hm hc => ?_) ⟨?_, fun j _ _ => ?_⟩ ?_ ?_ (fun z => ?_) ⟨r1, r6⟩ ⟨by rw [g1]; omega, by rw [g2 _ _ (by omega) (by omega) (by omega) (by omega) (by omega), w2 _ _ (by omega), u.2.1.2.2.1]⟩ ⟨r2, r3⟩ (by rw [g2 625 _ (by omega) (by omega) (by omega) (by omega) (by omega), w2 625 _ (by omega), u.2.1.1]; omega)
    · rw [g2 _ _ (by omega) (by omega) (by omega) (by omega) (by omega), w2 _ _ (by omega), f1 _ _ (by omega) (by omega) (by omega) (by omega), rd_nk (by omega)]
    · by_cases e : c = rc ∧ m = s0
      · refine Or.inr ⟨?_, LKc_i (lk_kd H.1.1.1 k3) e (by rw [g2 625 _ (by omega) (by omega) (by omega) (by omega) (by omega), w2 625 _ (by omega), u.2.1.1]; omega)⟩
        rw [g2 _ _ (by omega) (by omega) (by omega) (by omega) (by omega), w2 _ _ (by omega), e.1, e.2]
        have := u.1.2.2.2.2.2
        rw [k1, k2] at this
        exact this
      · exact Or.inl (by rw [g2 _ _ (by omega) (by omega) (by omega) (by omega) (by omega), w2 _ _ (by omega), f1 _ _ (by omega) (by omega) (by omega) (by omega), rd_nk (by omega)])
    · rw [g2 _ _ (by omega) (by omega) (by omega) (by omega) (by omega), w2 _ _ (by omega), f1 _ _ (by omega) (by omega) (by omega) (by omega), rd_nk (by omega)]
      exact Int.le_refl _
    · rw [g2 _ _ (by omega) (by omega) (by omega) (by omega) (by omega), w2 _ _ (by omega), f1 _ _ (by omega) (by omega) (by omega) (by omega), rd_nk (by omega)]
    · rw [g2 625 _ (by omega) (by omega) (by omega) (by omega) (by omega), w2 625 _ (by omega), u.2.1.1, g2 628 _ (by omega) (by omega) (by omega) (by omega) (by omega), w1.1, g2 629 _ (by omega) (by omega) (by omega) (by omega) (by omega), w1.2]
      exact nv_p (by omega) hf4 (fun z => hng (by omega)) hn9
    · rw [g2 _ _ (by omega) (by omega) (by omega) (by omega) (by omega), w2 _ _ (by omega), u.2.1.2.2.2.2.2.1]
    · rw [g2 625 _ (by omega) (by omega) (by omega) (by omega) (by omega), w2 625 _ (by omega), u.2.1.1] at z
      omega
/-- heads of both at a bracket -/
theorem br_C {p : Int} (ht : RIt lv ws S T) (hp : p = T.1 645 lv) (hc : sp_at S (ws lv) p = 40) : jm_85 Q S = (ev_bd (jm_102 Q (ev_pI S 3 8 (p + 1))) fun x s => ev_if (ev_bl x) (some (x, s))) := by
  subst hp
  obtain ⟨⟨g1, g2, g3, g4, g5⟩, g6, g7⟩ := hd_85 (Q := Q) (c := 40) ht hc (by decide)
  unfold jm_85
  rw [g1, sp_bd, sp_b, g3, sp_ck (by omega), sp_b, if_neg (show ¬ ((40 : Int) = 36) by decide), if_pos rfl]
theorem br_R {p : Int} (ht : RIt lv ws S T) (hp : p = T.1 645 lv) (hc : sp_at S (ws lv) p = 40) : jm_263 Q T = if sp_at S (ws lv) (p + 1) = 63 then (ev_bd (jm_261 Q (ev_pI T 645 lv (p + 2))) fun _ s => some ((), s)) else if sp_at S (ws lv) (p + 1) = 42 then (ev_bd (jm_262 Q (ev_pI T 645 lv (p + 2))) fun _ s => some ((), s)) else (ev_bd (jm_259 Q (-1) (ev_pI T 645 lv (p + 1))) fun _ s => some ((), s)) := by
  subst hp
  obtain ⟨⟨g1, g2, g3, g4, g5⟩, g6, g7⟩ := hd_85 (Q := Q) (c := 40) ht hc (by decide)
  unfold jm_263
  rw [g2, sp_bd, sp_jn, if_neg (show ¬ ((40 : Int) = 63) by decide), if_neg (show ¬ ((40 : Int) = 42) by decide), if_neg (show ¬ ((40 : Int) = 43) by decide), if_pos (show ((40 : Int) ≠ 123) by decide), if_pos (show ((40 : Int) ≠ 92) by decide), if_pos (show ((40 : Int) ≠ 91) by decide), if_neg (fun z => z rfl), (g6 1 (by omega)).2, sp_bd, sp_jn]
  by_cases e1 : sp_at S (ws lv) (T.1 645 lv + 1) = 63
  · rw [if_neg (fun z => z e1), if_pos e1]
    try dsimp only
    rw [(g6 1 (by omega)).2, sp_bd, sp_jn, if_pos (by omega)]
    try dsimp only
    rw [sp_jn, sp_jn, if_pos (by decide)]
    try dsimp only
    rw [g7 2 (by omega), sp_bd, if_neg (by decide)]
  · rw [if_pos e1, if_neg e1]
    try dsimp only
    rw [(g6 1 (by omega)).2, sp_bd, sp_jn]
    by_cases e2 : sp_at S (ws lv) (T.1 645 lv + 1) = 42
    · rw [if_neg (fun z => z e2), if_pos e2]
      try dsimp only
      rw [sp_jn, sp_jn, if_neg (by decide), if_neg (by decide)]
      try dsimp only
      rw [g7 2 (by omega), sp_bd, if_pos rfl, if_neg (by decide)]
    · rw [if_pos e2, if_neg e2]
      try dsimp only
      rw [sp_jn, sp_jn, if_neg (by decide), if_pos rfl]
      try dsimp only
      rw [g7 1 (by omega), sp_bd, if_pos rfl, if_pos rfl]
end RPAR
