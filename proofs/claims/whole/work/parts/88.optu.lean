/-! THE READER: tokens that are leaves, run on both sides -/
section RTOK2
variable {Q k n m w d N M D lv : Nat} {φ ψ own inn G R ws y : Nat → Nat} {P q : Nat → Int} {S T S0 T0 S2 T2 T1 : ev_St}
def RIy (k lv : Nat) (ws : Nat → Nat) (N M D : Nat) (φ ψ own inn G R y : Nat → Nat) (P q : Nat → Int) (S T : ev_St) : Prop := RIb k lv ws N M D φ ψ own inn G R P q S T ∧ GH lv N D y G P (Kt T) (Xt T) (T.1 645) (T.1 650) ∧ RZ N D T ∧ UPe k N M D φ ψ own G R P S T
theorem RIy_n (h : RIb k lv ws N M D φ ψ own inn G R P q S T) : M < 400 ∧ N + 2 ≤ 320 ∧ (S.1 3 14 = T.1 621 27 ∧ 0 ≤ T.1 621 27 ∧ T.1 621 27 ≤ 150) ∧ D < 152 ∧ (D : Int) ≤ T.1 621 27 ∧ (0 ≤ S.1 3 13 ∧ S.1 3 13 ≤ 1) := by
  obtain ⟨⟨hR, hL⟩, ht, hg, ⟨c1, c2, c3, c4⟩, hf, hy, h9, h25⟩ := h
  have := hR.1.2.2.2.2
  have m0 : 0 ≤ S.1 3 13 ∧ S.1 3 13 ≤ 1 := by
    rcases hy with z | z
    · omega
    · omega
  exact ⟨by omega, by omega, c1, this, c4.1, m0⟩
/-- a leaf with a set -/
theorem tk_set {l e a b : Int64} {p : Int} (H : RIy k lv ws N M D φ ψ own inn G R y P q S T) (hk : ev_isOb k 5 = true) (hkr : 232 ≤ k) (hm : MVd lv p S T S0 T0) (hp : T.1 645 lv ≤ p ∧ p ≤ S.1 (ws lv) 1) (hB : SB l e a b) (hV : SV l e) : ∃ T2, jm_238 Q a b T0 = some ((), T2) ∧ ((∃ S', jm_90 Q l e S0 = some (0, S') ∧ T2.1 621 25 = 1) ∨ ∃ S', jm_90 Q l e S0 = some (1, S') ∧ RIa k lv ws S' T2 ∧ TKp lv p S T S' T2) := by
  obtain ⟨h, hg, hN0, hU⟩ := H
  have p0 := h.2.1.2.2.2.1 lv (Nat.le_refl _)
  have h0 := RIb_mv h hkr hm (by omega)
  obtain ⟨n1, n2, n3, n4, n5, n6⟩ := RIy_n h0
  obtain ⟨b1, b2, b3⟩ := RDR_b h0.1.1
  obtain ⟨T1, u1, u2⟩ := sp_238b (Q := Q) (a := a) (b := b) h0.1.1.1.1 (by omega) (by omega) b1 b2
  obtain ⟨T', t1, t2, t3⟩ := leaf_set (Q := Q) h0.1.1 hk hkr h0.2.2.2.2.2.2.1 n1 (by omega) n3 h0.2.2.2.2.2.2.2 hB hV
  rw [u2] at t1
  obtain rfl := (Prod.mk.inj (Option.some.inj t1)).2
  exact ⟨_, u2, tk_leaf h hg hN0 hU hkr hm (by show T.1 645 lv + ((0 : Nat) : Int) ≤ p ∧ _; omega) u1 (by decide) (fun _ _ _ => rfl) (by
    show nval 0 ((T1.1 628 (3840 + N))) ((T1.1 629 (3840 + N))) ∧ _
    rw [u1.2.1.2.2.2.1, u1.2.1.2.2.2.2.1]
    decide) (fun c g x y z => (if_neg (show ¬ (c = 634 ∧ g = 3840 + N) by omega)).trans (if_neg (show ¬ (c = 633 ∧ g = 3840 + N) by omega))) t2⟩
theorem ADr_mv {c p : Int} {i : Nat} (h : ADr m c T T1) : ADr m c (ev_pI T 645 i p) (ev_pI T1 645 i p) := by
  obtain ⟨⟨a1, a2, a3, a4, a5, a6⟩, ⟨u1, u2, u3, u4, u5, u6, u7, u8, u9, u10⟩, f1, f2, f3⟩ := h
  have lk := lk_i (T.1 621 38) (T.1 621 37)
  unfold ADr
  rw [show (ev_pI T 645 i p).1 621 38 = T.1 621 38 from rd_nk (by omega), show (ev_pI T 645 i p).1 621 37 = T.1 621 37 from rd_nk (by omega), show (ev_pI T 645 i p).1 621 27 = T.1 621 27 from rd_nk (by omega), show (ev_pI T 645 i p).1 621 25 = T.1 621 25 from rd_nk (by omega)]
  refine ⟨⟨by rw [rd_nk (by omega)]; exact a1, by rw [rd_nk (by omega)]; exact a2, by rw [rd_nk (by omega)]; exact a3, by rw [rd_nk (by omega)]; exact a4, by rw [rd_nk (by omega)]; exact a5, by rw [rd_nk (by omega)]; exact a6⟩, ⟨by rw [rd_nk (by omega)]; exact u1, by rw [rd_nk (by omega)]; exact u2, by rw [rd_nk (by omega)]; exact u3, by rw [rd_nk (by omega)]; exact u4, by rw [rd_nk (by omega)]; exact u5, by rw [rd_nk (by omega)]; exact u6, by rw [rd_nk (by omega)]; exact u7, by rw [rd_nk (by omega)]; exact u8, u9, u10⟩, fun c' g h1 h2 h3 h4 => ?_, f2, f3⟩
  by_cases e : c' = 645 ∧ g = i
  · rw [e.1, e.2, rd_eq, rd_eq]
  · rw [sp_pI1, if_neg e, sp_pI1, if_neg e, f1 c' g h1 h2 h3 h4]
/-- a leaf without one -/
theorem tk_kindA {x z v : Int} (c g f : Int) {p : Int} (H : RIy k lv ws N M D φ ψ own inn G R y P q S T) (hk : ev_isOb k 5 = true) (hkr : 232 ≤ k) (hm : MVd lv p S T S0 T0) (hp : T.1 645 lv + cst c ≤ p ∧ p ≤ S.1 (ws lv) 1) (hx : x = kcl c f) (h0 : c ≠ 0 ∧ c ≠ 18) (hy : c = 7 ∨ c = 8 ∨ c = 13 ∨ c = 14 → z = g) (hz : c = 7 → v = f) (hv : nval c g f ∧ ¬ (8 ≤ c ∧ c ≤ 13)) (u : ADr N c T0 T1) (w1 : T2.1 628 (3840 + N) = g ∧ T2.1 629 (3840 + N) = f) (w2 : ∀ a g, ¬ ((a = 628 ∨ a = 629) ∧ g = 3840 + N) → T2.1 a g = T1.1 a g) (w3 : T2.2 = T1.2) : (∃ S', jm_88 Q x z v S0 = some (0, S') ∧ T2.1 621 25 = 1) ∨ ∃ S', jm_88 Q x z v S0 = some (1, S') ∧ RIa k lv ws S' T2 ∧ TKp lv p S T S' T2 := by
  obtain ⟨h, hg, hN0, hU⟩ := H
  have p0 := h.2.1.2.2.2.1 lv (Nat.le_refl _)
  have hh := RIb_mv h hkr hm (by omega)
  obtain ⟨n1, n2, n3, n4, n5, n6⟩ := RIy_n hh
  obtain ⟨b1, b2, b3⟩ := RDR_b hh.1.1
  have hb := hh.2.2.2.2.2.2.2
  refine tk_leaf (T1 := T1) (c0 := c) (a := x) (b := z) (c := v) h hg hN0 hU hkr hm hp u h0.2 w2 (by rw [w1.1, w1.2]; exact hv) (fun c g _ _ _ => by rw [w3]) ?_
  obtain ⟨⟨t2, t3, t4, t5, t6, t7⟩, ⟨u1, u2, u3, u4, u5, u6, u7, u8, u9, u10⟩, f1, f2, f3⟩ := u
  have lk := lk_i (T0.1 621 38) (T0.1 621 37)
  have hR := hh.1.1
  rcases sp_88 (Q := Q) (a := x) (b := z) (c := v) (n := M) (d := D) hk hkr hh.2.2.2.2.2.2.1 hR.1.2.2.1 hR.1.2.2.2.2 hR.1.2.1 n1 b3 (by omega) with ⟨c1, S', c2⟩ | ⟨c1, S', c2, c3, c4⟩
  · refine Or.inl ⟨S', c2, ?_⟩
    rw [w2 _ _ (by omega), t4, if_neg (by omega)]
  · refine Or.inr ⟨S', c2, c3, ?_, ?_, ?_, ?_⟩
    · refine RDR_leaf hR hkr c3 (fun x g _ => by rw [c4]) ⟨by rw [w2 _ _ (by omega), t2], by rw [w2 _ _ (by omega), t5], by rw [w2 _ _ (by omega), t7]⟩ ⟨by rw [w2 _ _ (by omega), u2], by rw [w2 _ _ (by omega), u3], by rw [w2 _ _ (by omega), u6], by rw [w2 _ _ (by omega), u1]; exact h0.2⟩ (fun a g h1 h2 h3 h4 => by rw [w2 a g (by omega), f1 a g h1 h2 h3 h4]) (fun a g hh => by rw [w3, f2 a g hh]) ⟨?_, fun w => ?_, fun w => ?_, fun w => ?_⟩
      · rw [c3.1.2.1, w2 625 _ (by omega), u1, w1.2, hx]
      · rw [w2 625 _ (by omega), u1] at w
        exact absurd w h0.1
      · rw [w2 625 _ (by omega), u1] at w
        rw [c3.1.2.2.1, w1.1]
        exact hy w
      · rw [w2 625 _ (by omega), u1] at w
        rw [c3.1.2.2.2.1, w1.2]
        exact hz w
    · rw [w2 _ _ (by omega), t4, if_pos (by omega)]
    · rw [w2 _ _ (by omega), t3]
    · rw [w2 _ _ (by omega), t6]
theorem tk_add (c : Int) {p : Int} (h : RIb k lv ws N M D φ ψ own inn G R P q S T) (hkr : 232 ≤ k) (hm : MVd lv p S T S0 T0) (hp : 0 ≤ p ∧ p ≤ S.1 (ws lv) 1) : ∃ T1, jm_237 Q c T0 = some ((N : Int), T1) ∧ ADr N c T0 T1 := by
  have hh := RIb_mv h hkr hm hp
  obtain ⟨n1, n2, n3, n4, n5, n6⟩ := RIy_n hh
  obtain ⟨b1, b2, b3⟩ := RDR_b hh.1.1
  exact sp_237b (Q := Q) (a := c) hh.1.1.1.1 (by omega) (by omega) b1 b2
theorem tk_kind {x z v : Int} (c g f : Int) {p : Int} (H : RIy k lv ws N M D φ ψ own inn G R y P q S T) (hk : ev_isOb k 5 = true) (hkr : 232 ≤ k) (hm : MVd lv p S T S0 T0) (hp : T.1 645 lv + cst c ≤ p ∧ p ≤ S.1 (ws lv) 1) (hx : x = kcl c f) (h0 : c ≠ 0 ∧ c ≠ 18) (hy : c = 7 ∨ c = 8 ∨ c = 13 ∨ c = 14 → z = g) (hz : c = 7 → v = f) (hv : nval c g f ∧ ¬ (8 ≤ c ∧ c ≤ 13)) : ∃ T1, jm_237 Q c T0 = some ((N : Int), T1) ∧ (T1.1 628 (3840 + N) = 0 ∧ T1.1 629 (3840 + N) = 0) ∧ (T1.1 621 40 = T0.1 621 40 ∧ T1.1 621 28 = T0.1 621 28 ∧ (∀ g, T1.1 645 g = T0.1 645 g) ∧ (∀ a g, a = 622 ∨ a = 623 ∨ a = 624 ∨ a = 644 ∨ (a = 621 ∧ (g = 1 ∨ g = 28)) → T1.1 a g = T0.1 a g)) ∧ ∀ T2, (T2.1 628 (3840 + N) = g ∧ T2.1 629 (3840 + N) = f) → (∀ a g, ¬ ((a = 628 ∨ a = 629) ∧ g = 3840 + N) → T2.1 a g = T1.1 a g) → T2.2 = T1.2 → (∃ S', jm_88 Q x z v S0 = some (0, S') ∧ T2.1 621 25 = 1) ∨ ∃ S', jm_88 Q x z v S0 = some (1, S') ∧ RIa k lv ws S' T2 ∧ TKp lv p S T S' T2 := by
  have p0 := H.1.2.1.2.2.2.1 lv (Nat.le_refl _)
  obtain ⟨T1, t1, u⟩ := tk_add (Q := Q) c H.1 hkr hm (by omega)
  have o := @ADr_o N T0 T1 c u
  exact ⟨T1, t1, ⟨u.2.1.2.2.2.1, u.2.1.2.2.2.2.1⟩, ⟨o (by omega) (by omega) (by omega), o (by omega) (by omega) (by omega), fun g => o (by omega) (by omega) (by omega), fun a g ha => o (by omega) (by omega) (by omega)⟩, fun T2 w1 w2 w3 => tk_kindA c g f H hk hkr hm hp hx h0 hy hz hv u w1 w2 w3⟩
/-- a character that stands for itself -/
theorem tk_char {x bo p : Int} (hQ : 300 ≤ Q) (hx : sp_sign x = 1) (H : RIy k lv ws N M D φ ψ own inn G R y P q S T) (hk : ev_isOb k 5 = true) (hkr : 232 ≤ k) (hm : MVd lv p S T S0 T0) (hp : T.1 645 lv ≤ p ∧ p ≤ S.1 (ws lv) 1) (hbo : (ev_iand (T0.1 621 40) 1 = 0 ∧ bo = 0) ∨ (ev_iand (T0.1 621 40) 1 ≠ 0 ∧ bo ≠ 0)) : ∃ T1 T2, jm_245 Q x x bo T0 = some ((), T1) ∧ jm_238 Q (T1.2.1 621 41) (T1.2.1 621 42) T1 = some ((), T2) ∧ ((∃ S', jm_89 Q x S0 = some (0, S') ∧ T2.1 621 25 = 1) ∨ ∃ S', jm_89 Q x S0 = some (1, S') ∧ RIa k lv ws S' T2 ∧ TKp lv p S T S' T2) := by
  have r := sp_sign_r hx
  have hf := (RIb_mv H.1 hkr hm (by have := H.1.2.1.2.2.2.1 lv (Nat.le_refl _); omega)).2.2.2.2.1.1
  obtain ⟨T1, a1, a2, a3, a4, a5⟩ := sp_245 (Q := Q) (x := x) (e := x) (bo := bo) (S := T0) (by omega) (by omega) (by omega)
  obtain ⟨b1, b2⟩ := ch_SB hx a2 (fl := ev_iand (S0.1 3 11) 1) (by rw [hf]; exact hbo)
  obtain ⟨m1, m2, m3, m4, m5, m6, m7, m8⟩ := hm
  obtain ⟨T2, t1, t2⟩ := tk_set (Q := Q) H hk hkr (S0 := S0) (T0 := T1) (p := p) ⟨m1, m2, m3, fun x g h1 h2 => by rw [a3]; exact m4 x g h1 h2, by rw [a3, m5], by rw [a5, m6], fun c g h1 h2 => by rw [a4 c g (by omega)]; exact m7 c g h1 h2, m8⟩ hp b1 b2
  refine ⟨T1, T2, a1, t1, ?_⟩
  rw [sp_89 (by omega)]
  rcases t2 with ⟨S', d1, d2⟩ | ⟨S', d1, d2, d3⟩
  · exact Or.inl ⟨S', by rw [d1, sp_bd, sp_if (Or.inl rfl)], d2⟩
  · exact Or.inr ⟨S', by rw [d1, sp_bd, sp_if (Or.inr rfl)], d2, d3⟩
/-- the heads of both -/
theorem hd_85 {c : Int} (ht : RIt lv ws S T) (hc : sp_at S (ws lv) (T.1 645 lv) = c) (hne : c ≠ -1) : (jm_84 Q 0 S = some (c, S) ∧ jm_233 Q 0 T = some (c, T) ∧ S.1 3 8 = T.1 645 lv ∧ (0 ≤ T.1 645 lv ∧ T.1 645 lv < S.1 (ws lv) 1 ∧ S.1 (ws lv) 1 ≤ 120) ∧ sp_sign c = 1) ∧ (∀ a, 0 ≤ a ∧ a ≤ 200 → jm_84 Q a S = some (sp_at S (ws lv) (T.1 645 lv + a), S) ∧ jm_233 Q a T = some (sp_at S (ws lv) (T.1 645 lv + a), T)) ∧ ∀ a, 0 ≤ a ∧ a ≤ 200 → jm_234 Q a T = some ((), ev_pI T 645 lv (T.1 645 lv + a)) := by
  obtain ⟨r1, r2, r3, r4, r5, r6⟩ := RT_ofL ht
  have e := ht.2.2.2.2.2.1.2
  have rp : rpos T = T.1 645 lv := by omega
  have lt := at_in (S := S) (w := ws lv) (p := rpos T) r4 (by rw [rp, hc]; exact hne)
  have hl := r1.2.1
  have t28 : (T.1 621 28).toNat = lv := by
    have := ht.2.2.1
    omega
  have g : ∀ a, 0 ≤ a ∧ a ≤ 200 → jm_84 Q a S = some (sp_at S (ws lv) (T.1 645 lv + a), S) ∧ jm_233 Q a T = some (sp_at S (ws lv) (T.1 645 lv + a), T) := fun a ha => by
    constructor
    · rw [sp_84 r1.1 (by omega) r6 (by omega), e]
    · rw [sp_233 r1 (by omega), rp]
  refine ⟨⟨?_, ?_, e, by omega, ?_⟩, g, fun a ha => ?_⟩
  · rw [(g 0 (by omega)).1, Int.add_zero, hc]
  · rw [(g 0 (by omega)).2, Int.add_zero, hc]
  · have q := (r1.2.2.2.2.2.2 (rpos T) r4).2
    rw [rp, hc] at q
    exact q.resolve_left hne
  · rw [sp_234 r1.2.2.1 (by omega), t28, rp]
end RTOK2
