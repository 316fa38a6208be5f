/-! THE READER: what stands behind a backslash -/
section RTOK5
variable {Q k n m w d N M D lv : Nat} {φ ψ own inn G R ws y : Nat → Nat} {P q : Nat → Int} {S T S0 T0 S2 T2 T1 U : ev_St}
/-- peeks and moves, at any spot -/
theorem pk_S {x a : Int} (ht : RIt lv ws S T) (hU : U.2.2.1 3 7 = S.2.2.1 3 7) (hU1 : ∀ g, U.1 (ws lv) g = S.1 (ws lv) g) (hU2 : ∀ g, U.1 (ws lv + 1) g = S.1 (ws lv + 1) g) (hx : U.1 3 8 = x) (hp : -1000 ≤ x + a ∧ x + a ≤ 1000) : jm_84 Q a U = some (sp_at S (ws lv) (x + a), U) := by
  obtain ⟨r1, r2, r3, r4, r5, r6⟩ := RT_ofL ht
  have e : sp_at U (ws lv) (x + a) = sp_at S (ws lv) (x + a) := by
    unfold sp_at
    rw [hU1, hU2]
  rw [sp_84 r1.1 (by rw [hU1]; have := r1.2.1; omega) (by rw [hU, r6]) (by omega), hx, e]
theorem pk_Sp {x a : Int} (ht : RIt lv ws S T) (hp : -1000 ≤ x + a ∧ x + a ≤ 1000) : jm_84 Q a (ev_pI S 3 8 x) = some (sp_at S (ws lv) (x + a), ev_pI S 3 8 x) := by
  obtain ⟨r1, r2, r3, r4, r5, r6⟩ := RT_ofL ht
  unfold isTx at r2
  exact pk_S ht rfl (fun g => rd_nk (by omega)) (fun g => rd_nk (by omega)) rd_eq hp
theorem pk_T {x a : Int} (ht : RIt lv ws S T) (hU : ∀ a g, a = 622 ∨ a = 623 ∨ a = 624 ∨ a = 644 ∨ (a = 621 ∧ (g = 1 ∨ g = 28)) → U.1 a g = T.1 a g) (hx : U.1 645 lv = x) (hp : 0 ≤ x + a ∧ x + a ≤ 400) : jm_233 Q a U = some (sp_at S (ws lv) (x + a), U) := by
  obtain ⟨r1, r2, r3, r4, r5, r6⟩ := RT_ofL ht
  have rU := RT_c r1 hU
  have e : rpos U = x := by
    unfold rpos
    rw [hU 621 28 (by omega), ht.2.2.1.2.1, Int.toNat_natCast, hx]
  rw [sp_233 rU (by omega), e]
theorem go_T {x a : Int} (ht : RIt lv ws S T) (hU : U.1 621 28 = T.1 621 28) (hx : U.1 645 lv = x) (hp : -1000 ≤ x + a ∧ x + a ≤ 1000) : jm_234 Q a U = some ((), ev_pI U 645 lv (x + a)) := by
  have e : rpos U = x := by
    unfold rpos
    rw [hU, ht.2.2.1.2.1, Int.toNat_natCast, hx]
  have v := ht.2.2.1
  rw [sp_234 (by rw [hU]; omega) (by omega), e, hU, v.2.1, Int.toNat_natCast]
theorem pk_Tp {x a : Int} (ht : RIt lv ws S T) (hp : 0 ≤ x + a ∧ x + a ≤ 400) : jm_233 Q a (ev_pI T 645 lv x) = some (sp_at S (ws lv) (x + a), ev_pI T 645 lv x) := pk_T ht (fun a g h => rd_nk (by omega)) rd_eq hp
theorem go_Tp {x a : Int} (ht : RIt lv ws S T) (hp : -1000 ≤ x + a ∧ x + a ≤ 1000) : jm_234 Q a (ev_pI T 645 lv x) = some ((), ev_pI T 645 lv (x + a)) := by
  rw [go_T ht (rd_nk (by omega)) rd_eq hp, pI_pI]
/-- a sign that is no letter -/
theorem tk_plain {x p : Int} (hx : sp_sign x = 1) (hl : oth x = x) (H : RIy k lv ws N M D φ ψ own inn G R y P q S T) (hk : ev_isOb k 5 = true) (hkr : 232 ≤ k) (hm : MVd lv p S T S0 T0) (hp : T.1 645 lv ≤ p ∧ p ≤ S.1 (ws lv) 1) : ∃ T2, jm_238 Q (rone x) (rtwo x) T0 = some ((), T2) ∧ ((∃ S', jm_89 Q x S0 = some (0, S') ∧ T2.1 621 25 = 1) ∨ ∃ S', jm_89 Q x S0 = some (1, S') ∧ RIa k lv ws S' T2 ∧ TKp lv p S T S' T2) := by
  have r := sp_sign_r hx
  obtain ⟨b1, b2⟩ := ch_SB (x := x) (bo := ev_iand (S0.1 3 11) 1) hx (a := rone x) (b := rtwo x) ⟨fun c hc => by
    rw [rb_one hx hc]
    have e1 : decide (x ≤ c ∧ c ≤ x) = decide (c = x) := by
      by_cases h : c = x
      · rw [decide_eq_true h, decide_eq_true (by omega)]
      · rw [decide_eq_false h, decide_eq_false (by omega)]
    have e2 : decide (x ≤ oth c ∧ oth c ≤ x) = decide (c = x) := by
      by_cases h : c = x
      · rw [decide_eq_true h, h, hl, decide_eq_true (by omega)]
      · rw [decide_eq_false h, decide_eq_false (fun z => h (by rw [← oth_oth c, show oth c = x from by omega, hl]))]
    rw [e1, e2]
    cases decide (c = x) <;> simp, RVz_two hx⟩ (fl := ev_iand (S0.1 3 11) 1) (by
    by_cases e : ev_iand (S0.1 3 11) 1 = 0
    · exact Or.inl ⟨e, e⟩
    · exact Or.inr ⟨e, e⟩)
  obtain ⟨T2, t1, t2⟩ := tk_set (Q := Q) H hk hkr hm hp b1 b2
  refine ⟨T2, t1, ?_⟩
  rw [sp_89 (by omega)]
  rcases t2 with ⟨S', d1, d2⟩ | ⟨S', d1, d2, d3⟩
  · exact Or.inl ⟨S', by rw [d1, sp_bd, sp_if (Or.inl rfl)], d2⟩
  · exact Or.inr ⟨S', by rw [d1, sp_bd, sp_if (Or.inr rfl)], d2, d3⟩
theorem sl_C {w : Nat} {p : Int} (ht : RIt lv ws S T) (hw : w = ws lv) (hp : p = T.1 645 lv) (hc : sp_at S w p = 92) : jm_85 Q S = (ev_bd (jm_96 Q (ev_pI S 3 8 (p + 1))) fun x s => ev_if (ev_bl x) (some (x, s))) ∧ (jm_263 Q T = ev_bd (jm_256 Q T) fun _ s => some ((), s)) := by
  subst hw hp
  obtain ⟨⟨g1, g2, g3, g4, g5⟩, g6, g7⟩ := hd_85 (Q := Q) (c := 92) ht hc (by decide)
  constructor
  · unfold jm_85
    rw [g1, sp_bd, sp_b, g3, sp_ck (by omega), sp_b, if_neg (show ¬ ((92 : Int) = 36) by decide), if_neg (show ¬ ((92 : Int) = 40) by decide), if_neg (show ¬ ((92 : Int) = 41) by decide), if_neg (show ¬ ((92 : Int) = 42) by decide), if_neg (show ¬ ((92 : Int) = 43) by decide), if_neg (show ¬ ((92 : Int) = 46) by decide), if_neg (show ¬ ((92 : Int) = 63) by decide), if_neg (show ¬ ((92 : Int) = 91) by decide), if_pos rfl]
  · unfold jm_263
    rw [g2, sp_bd, sp_jn, if_neg (show ¬ ((92 : Int) = 63) by decide), if_neg (show ¬ ((92 : Int) = 42) by decide), if_neg (show ¬ ((92 : Int) = 43) by decide), if_pos (show ((92 : Int) ≠ 123) by decide), if_neg (fun z => z rfl)]
/-- "\d" and its like -/
theorem tk_sl_kind {p dd : Int} (hQ : 300 ≤ Q) (hk : ev_isOb k 5 = true) (hkr : 232 ≤ k) (H : RIy k lv ws N M D φ ψ own inn G R y P q S T) (hp : T.1 645 lv = p) (hc : sp_at S (ws lv) p = 92) (hd : sp_at S (ws lv) (p + 1) = dd) (hK : isK dd) : TK0 k lv ws (p + 2) S T (jm_85 Q S) (jm_263 Q T) := by
  obtain ⟨⟨g1, g2, g3, g4, g5⟩, g6, g7⟩ := hd_85 (Q := Q) (c := 92) H.1.2.1 (by rw [hp]; exact hc) (by decide)
  have ht := H.1.2.1
  obtain ⟨c1, c2⟩ := sl_C (Q := Q) ht rfl hp.symm hc
  have h4 := at_in (S := S) (w := ws lv) (p := p + 1) (by omega) (by rw [hd]; unfold isK at hK; omega)
  obtain ⟨T1, t1, t2, t3, t4, t5⟩ := sp_246 (Q := Q) (k := dd) (S := ev_pI T 645 lv (p + 2)) (by omega) hK
  have mv : MVd lv (p + 2) S T (ev_pI S 3 8 (p + 2)) T1 := by
    obtain ⟨m1, m2, m3, m4, m5, m6, m7, m8⟩ := mv_pI (lv := lv) (S := S) (T := T) (p := p + 2)
    exact ⟨m1, m2, m3, fun x g h1 h2 => by rw [t3]; exact m4 x g h1 h2, by rw [t3]; exact m5, by rw [t5]; exact m6, fun c g h1 h2 => by rw [t4 c g (by omega)]; exact m7 c g h1 h2, m8⟩
  obtain ⟨T2, u1, u2⟩ := tk_set (Q := Q) (p := p + 2) H hk hkr mv (by omega) ⟨fun c hc => by
    rw [cb_kind hK hc]
    exact (t2.1 c hc).symm, t2.2⟩ (SV_kind hK)
  have kd : (if dd = 100 ∨ dd = 119 ∨ dd = 115 ∨ dd = 68 ∨ dd = 87 ∨ dd = 83 then (1 : Int) else 0) = 1 := if_pos hK
  refine TK0_of u2 (fun hA => ?_) ?_
  · rw [c1]
    unfold jm_96
    rw [pk_Sp ht (by omega), sp_bd, sp_b, rd_eq, sp_ck (by omega), sp_b, pI_pI, Int.add_zero, hd, sp_216, sp_bd, kd, if_neg (by decide), sp_217, sp_bd, sp_218, sp_bd, show p + 1 + 1 = p + 2 from by omega, fin_bd hA]
    exact fin_bd hA
  · rw [c2]
    unfold jm_256
    rw [(g6 1 (by omega)).2, sp_bd, g7 2 (by omega), sp_bd, hp, hd, sp_247 (by unfold isK at hK; omega), sp_bd, kd, if_neg (by decide), t1, sp_bd, sp_b, sp_b, u1, sp_bd, sp_bd]
end RTOK5
