/-! RUNAWAY: one node's climb, all signs, the call -/
section OPYA
variable {Q k p N M m n g u s L j : Nat} {xs : Nat → Int32} {φ ψ own up : Nat → Nat} {S S0 S2 T T0 U V : ev_St} {W : Nat → FV} {Fv : Nat → Int} {a : Int}
theorem run285 (hp : p < 12) (hQ : 1000 ≤ Q) (hF : FINX k N M φ ψ own up S0 (sft p T0)) (ha : AG0 p T0 U) (hw : UPw N up U) : ∀ (n s q : Nat) (x13 : Int) (al : Prop), s < N → n < q → s < n → tv x13 al → ∃ v, jl_285_40 Q (p : Int) (320 * (p : Int)) q x13 0 (s : Int) U = some (v, U) ∧ tv v (RUNf up p T0 n al s) := fun n => by
  have h := TREE_of hF
  have hN : N ≤ 320 := hF.2.1.2.2.2
  have hu : ∀ t, t < N → t ≠ 0 → up t < t := fun t h1 h2 => UP_lt hF h1 h2 rfl
  have eC : ∀ m, tC (sft p T0) m = T0.1 626 (320 * p + m) := fun m => sft_1 (by omega) (by omega)
  have eX : tX (sft p T0) = X0 p T0 := funext fun t => sft_1 (by omega) (by omega)
  obtain ⟨l25, l26, l27, l28, _, l30, l31, l32, _⟩ := al_K
  obtain ⟨l40, _⟩ := al_F
  obtain ⟨_, l59⟩ := al658
  have one : ∀ (q : Nat) (x13 : Int) (s : Nat), 0 < q → jl_285_40 Q (p : Int) (320 * (p : Int)) q x13 1 (s : Int) U = some (1, U) := fun q x13 s hq => by
    obtain ⟨q, rfl⟩ : ∃ r, q = r + 1 := ⟨q - 1, by omega⟩
    show jb_285_40 Q _ _ _ _ _ _ U = _
    unfold jb_285_40
    by_cases y : x13 = 0
    · rw [if_pos y, sp_if (Or.inr rfl)]
    · rw [if_neg y, if_pos (by decide), sp_if (Or.inr rfl)]
  induction n with
  | zero => intro s q x13 al _ _ h _; omega
  | succ n ih =>
    intro s q x13 al h1 h2 h3 h4
    obtain ⟨q, rfl⟩ : ∃ r, q = r + 1 := ⟨q - 1, by omega⟩
    have hd : jl_285_40 Q (p : Int) (320 * (p : Int)) (q + 1) x13 0 (s : Int) U = jb_285_40 Q (p : Int) (320 * (p : Int)) (jl_285_40 Q (p : Int) (320 * (p : Int)) q) x13 0 (s : Int) U := rfl
    rw [hd]
    unfold jb_285_40
    rcases h4 with ⟨y, y2⟩ | ⟨y, y2⟩
    · rw [if_neg (show ¬ (x13 = 0) by omega), if_neg (fun z => z rfl), sp_if (by rw [l59]; omega), sp_b, Int.toNat_natCast]
      by_cases e : s = 0
      · subst e
        rw [hw.2, if_pos rfl, sp_if (Or.inl rfl)]
        exact ⟨0, rfl, Or.inr ⟨rfl, fun z => z.1.2 rfl⟩⟩
      · have lt := hu s h1 e
        have e25 := ha.1 625 (up s) (by omega) (by omega)
        have e26 := ha.1 626 (up s) (by omega) (by omega)
        have e30 := ha.1 630 (up s) (by omega) (by omega)
        have e31 := ha.1 631 (up s) (by omega) (by omega)
        have e32 := ha.1 632 (up s) (by omega) (by omega)
        have e40 := ha.1 640 (up s) (by omega) (by omega)
        rw [hw.1 s h1 e, if_neg (by omega), sp_if (by rw [l59]; omega), sp_b, sp_ck (by omega), show 320 * (p : Int) + (up s : Int) = ((320 * p + up s : Nat) : Int) from by omega, sp_if (by rw [l25]; omega), sp_b, Int.toNat_natCast, e25, sp_jn]
        by_cases z18 : T0.1 625 (320 * p + up s) = 18
        · rw [if_neg (fun z => z z18), sp_if (by rw [l26]; omega), sp_b, e26]
          have hc := Kid_C h (show up s < N by omega)
          rw [eC] at hc
          have hX := Kid_X h (m := up s)
          rw [eX] at hX
          obtain ⟨x, r1, r2⟩ := in285 (Q := Q) (s := s) (u := up s) (x14 := 0) (K252 := fun (x34 : Int) (x35 : Int) (x36 : Int) (s44 : ev_St) => jl_285_40 Q (p : Int) (320 * (p : Int)) q x34 x35 x36 s44) hp hX hN ha (fun _ _ => rfl) 320 0 Q (T0.1 626 (320 * p + up s)) x13 True (by omega) (by omega) hc (Or.inl ⟨y, trivial⟩)
          obtain ⟨v, q1, q2⟩ := ih (up s) q x (othN p T0 (up s) s) (by omega) (by omega) (by omega) (by
            rcases r2 with ⟨w, w2⟩ | ⟨w, w2⟩
            · exact Or.inl ⟨w, w2.2⟩
            · exact Or.inr ⟨w, fun z => w2 ⟨trivial, z⟩⟩)
          refine ⟨v, r1.trans q1, ?_⟩
          rcases q2 with ⟨w, w2⟩ | ⟨w, w2⟩
          · exact Or.inl ⟨w, ⟨y2, e⟩, Or.inl ⟨z18, w2⟩⟩
          · refine Or.inr ⟨w, fun z => ?_⟩
            rcases z.2 with z | z
            · exact w2 z.2
            · exact z.1 z18
        · rw [if_pos z18]
          obtain ⟨b, b1, b2⟩ := sp_284 (Q := Q) (u := up s) hp (by omega) ha
          obtain ⟨i, i1, i2⟩ := sp_282 (Q := Q) (u := up s) hp (by omega) ha
          obtain ⟨d, d1, d2⟩ := sp_286 (Q := Q) (u := up s) hp hN (by omega) ha hw hu (by omega)
          obtain ⟨x48, h48⟩ : ∃ x48 : Int, x48 = if b ≠ 0 then 0 else 1 := ⟨_, rfl⟩
          have t48 : tv x48 (¬ barN p T0 (up s)) := by
            rcases b2 with ⟨w, w2⟩ | ⟨w, w2⟩
            · rw [if_pos (by omega)] at h48
              exact Or.inr ⟨h48, fun z => z w2⟩
            · rw [if_neg (by omega)] at h48
              exact Or.inl ⟨h48, w2⟩
          obtain ⟨x57, h57⟩ : ∃ x57 : Int, x57 = if x48 = 0 then 0 else if i = 0 then 0 else if d = 0 then 0 else 1 := ⟨_, rfl⟩
          have t57 : tv x57 (¬ barN p T0 (up s) ∧ infN p T0 (up s) ∧ nbF up p T0 320 (up s)) := by
            rcases t48 with ⟨w, w2⟩ | ⟨w, w2⟩
            · rw [if_neg (by omega)] at h57
              rcases i2 with ⟨v, v2⟩ | ⟨v, v2⟩
              · rw [if_neg (by omega)] at h57
                rcases d2 with ⟨o, o2⟩ | ⟨o, o2⟩
                · rw [if_neg (by omega)] at h57
                  exact Or.inl ⟨h57, w2, v2, o2⟩
                · rw [if_pos o] at h57
                  exact Or.inr ⟨h57, fun z => o2 z.2.2⟩
              · rw [if_pos v] at h57
                exact Or.inr ⟨h57, fun z => v2 z.2.1⟩
            · rw [if_pos w] at h57
              exact Or.inr ⟨h57, fun z => w2 z.1⟩
          obtain ⟨x67, h67⟩ : ∃ x67 : Int, x67 = if x48 = 0 then 0 else JIv p T0 1 (up s) := ⟨_, rfl⟩
          have t67 : tv x67 (¬ barN p T0 (up s) ∧ rpc p T0 (up s)) := by
            have q := JIv_p (p := p) (T0 := T0) (t := up s) (mk := 1) (P := True) (Or.inl ⟨rfl, trivial⟩)
            rcases t48 with ⟨w, w2⟩ | ⟨w, w2⟩
            · rw [if_neg (by omega)] at h67
              rw [h67]
              rcases q with ⟨v, v2⟩ | ⟨v, v2⟩
              · exact Or.inl ⟨v, w2, v2.2⟩
              · exact Or.inr ⟨v, fun z => v2 ⟨trivial, z.2⟩⟩
            · rw [if_pos w] at h67
              exact Or.inr ⟨h67, fun z => w2 z.1⟩
          have st1 : ∀ JJ : Int → ev_St → Option (Int × ev_St), ev_jn JJ (fun K165 => if b ≠ 0 then (K165 0 U) else (K165 1 U)) = JJ x48 U := fun JJ => by
            rw [sp_jn, h48]
            by_cases w : b ≠ 0
            · rw [if_pos w, if_pos w]
            · rw [if_neg w, if_neg w]
          have st2 : ∀ JJ : Int → Int → ev_St → Option (Int × ev_St), ev_jn JJ (fun K196 => ev_jn (fun (x99 : Int) (s107 : ev_St) => K196 x99 0 s107) fun K195 => if x48 = 0 then (K195 x48 U) else (ev_bd (jm_282 Q ((320 * p + up s : Nat) : Int) U) fun x110 s109 => if x110 = 0 then (K195 x48 s109) else (ev_bd (jm_286 Q (p : Int) (up s : Int) s109) fun x113 s112 => if x113 = 0 then (K195 x48 s112) else (K196 x48 1 s112)))) = JJ x48 x57 U := fun JJ => by
            rw [sp_jn, sp_jn, h57]
            by_cases w : x48 = 0
            · rw [if_pos w, if_pos w]
            · rw [if_neg w, if_neg w, i1, sp_bd]
              by_cases w2 : i = 0
              · rw [if_pos w2, if_pos w2]
              · rw [if_neg w2, if_neg w2, d1, sp_bd]
                by_cases w3 : d = 0
                · rw [if_pos w3, if_pos w3]
                · rw [if_neg w3, if_neg w3]
          have st3 : ∀ JJ : Int → Int → ev_St → Option (Int × ev_St), ev_jn JJ (fun K250 => ev_jn (fun (x75 : Int) (s82 : ev_St) => K250 x75 0 s82) fun K249 => if x48 = 0 then (K249 x57 U) else (ev_if ((0 : Int) ≤ ((320 * p + up s : Nat) : Int) ∧ ((320 * p + up s : Nat) : Int) < (ev_aln 630 : Int)) (ev_b (U.1 630 (320 * p + up s)) fun x84 => ev_jn (fun (s91 : ev_St) => K250 x57 1 s91) fun K245 => if x84 = (-1) then (K245 U) else (ev_if ((0 : Int) ≤ ((320 * p + up s : Nat) : Int) ∧ ((320 * p + up s : Nat) : Int) < (ev_aln 632 : Int)) (ev_b (U.1 632 (320 * p + up s)) fun x93 => if x93 = 0 then (K249 x57 U) else (ev_if ((0 : Int) ≤ ((320 * p + up s : Nat) : Int) ∧ ((320 * p + up s : Nat) : Int) < (ev_aln 631 : Int)) (ev_b (U.1 631 (320 * p + up s)) fun x95 => if x95 < 2 then (K245 U) else (ev_if ((0 : Int) ≤ ((320 * p + up s : Nat) : Int) ∧ ((320 * p + up s : Nat) : Int) < (ev_aln 640 : Int)) (ev_b (U.1 640 (320 * p + up s)) fun x97 => if x97 ≠ 0 then (K249 x57 U) else (K245 U)))))))))) = JJ x57 x67 U := fun JJ => by
            rw [sp_jn, sp_jn, h67]
            unfold JIv
            by_cases w : x48 = 0
            · rw [if_pos w, if_pos w]
            · rw [if_neg w, if_neg w, if_neg (by decide), sp_if (by rw [l30]; omega), sp_b, e30, sp_jn]
              by_cases w2 : T0.1 630 (320 * p + up s) = -1
              · rw [if_pos w2, if_pos w2]
              · rw [if_neg w2, if_neg w2, sp_if (by rw [l32]; omega), sp_b, e32]
                by_cases w3 : T0.1 632 (320 * p + up s) = 0
                · rw [if_pos w3, if_pos w3]
                · rw [if_neg w3, if_neg w3, sp_if (by rw [l31]; omega), sp_b, e31]
                  by_cases w4 : T0.1 631 (320 * p + up s) < 2
                  · rw [if_pos w4, if_pos w4]
                  · rw [if_neg w4, if_neg w4, sp_if (by rw [l40]; omega), sp_b, e40]
                    by_cases w5 : T0.1 640 (320 * p + up s) ≠ 0
                    · rw [if_pos w5, if_pos w5]
                    · rw [if_neg w5, if_neg w5]
          rw [b1, sp_bd, st1]
          try dsimp only
          rw [st2]
          try dsimp only
          rw [st3]
          try dsimp only
          rcases t57 with ⟨w, w2⟩ | ⟨w, w2⟩
          · rw [w, one q x67 (up s) (by omega)]
            exact ⟨1, rfl, Or.inl ⟨rfl, ⟨y2, e⟩, Or.inr ⟨z18, Or.inl w2⟩⟩⟩
          · rw [w]
            obtain ⟨v, q1, q2⟩ := ih (up s) q x67 (¬ barN p T0 (up s) ∧ rpc p T0 (up s)) (by omega) (by omega) (by omega) t67
            refine ⟨v, q1, ?_⟩
            rcases q2 with ⟨o, o2⟩ | ⟨o, o2⟩
            · exact Or.inl ⟨o, ⟨y2, e⟩, Or.inr ⟨z18, Or.inr o2⟩⟩
            · refine Or.inr ⟨o, fun z => ?_⟩
              rcases z.2 with z | ⟨_, z | z⟩
              · exact z18 z.1
              · exact w2 z
              · exact o2 z
    · rw [if_pos y, sp_if (Or.inl rfl)]
      exact ⟨0, rfl, Or.inr ⟨rfl, fun z => y2 z.1.1⟩⟩
theorem sp_285 (hp : p < 12) (hQ : 1000 ≤ Q) (hF : FINX k N M φ ψ own up S0 (sft p T0)) (ha : AG0 p T0 U) (hw : UPw N up U) (hj : ∀ t, t < N → U.1 658 t = jP φ W a t) (hm : m < N) : ∃ v, jm_285 Q (p : Int) (m : Int) U = some (v, U) ∧ tv v (stN φ p T0 W a m ∧ RUNf up p T0 320 True m) := by
  have hN : N ≤ 320 := hF.2.1.2.2.2
  obtain ⟨i, i1, i2⟩ := sp_282 (Q := Q) (u := m) hp (by omega) ha
  have j281 := sp_281 (Q := Q) (t := m) hp (by omega) ha
  rw [hj m hm] at j281
  have tj : tv (JIv p T0 (jP φ W a m) m) ((W (φ m)).2.2.2.1 a ∧ rpc p T0 m) := JIv_p (p := p) (T0 := T0) (t := m) (bP_t (P := (W (φ m)).2.2.2.1 a))
  obtain ⟨x6, h6⟩ : ∃ x6 : Int, x6 = if i = 0 then 0 else if JIv p T0 (jP φ W a m) m = 0 then 0 else 1 := ⟨_, rfl⟩
  have t6 : tv x6 (stN φ p T0 W a m) := by
    rcases i2 with ⟨w, w2⟩ | ⟨w, w2⟩
    · rw [if_neg (by omega)] at h6
      rcases tj with ⟨v, v2⟩ | ⟨v, v2⟩
      · rw [if_neg (by omega)] at h6
        exact Or.inl ⟨h6, w2, v2⟩
      · rw [if_pos v] at h6
        exact Or.inr ⟨h6, fun z => v2 z.2⟩
    · rw [if_pos w] at h6
      exact Or.inr ⟨h6, fun z => w2 z.1⟩
  obtain ⟨v, r1, r2⟩ := run285 (Q := Q) hp hQ hF ha hw 320 m Q x6 _ hm (by omega) (by omega) t6
  refine ⟨v, ?_, ?_⟩
  · have st : ∀ JJ : Int → Int → ev_St → Option (Int × ev_St), ev_jn JJ (fun K32 => ev_jn (fun (x165 : Int) (s171 : ev_St) => K32 x165 0 s171) fun K31 => if i = 0 then (K31 (320 * (p : Int)) U) else (ev_ck (320 * (p : Int) + (m : Int)) fun x173 => ev_bd (jm_281 Q x173 (m : Int) U) fun x175 s174 => if x175 = 0 then (K31 (320 * (p : Int)) s174) else (K32 (320 * (p : Int)) 1 s174))) = JJ (320 * (p : Int)) x6 U := fun JJ => by
      rw [sp_jn, sp_jn, h6]
      by_cases w : i = 0
      · rw [if_pos w, if_pos w]
      · rw [if_neg w, if_neg w, sp_ck (by omega), show 320 * (p : Int) + (m : Int) = ((320 * p + m : Nat) : Int) from by omega, j281, sp_bd]
        by_cases w2 : JIv p T0 (jP φ W a m) m = 0
        · rw [if_pos w2, if_pos w2]
        · rw [if_neg w2, if_neg w2]
    rw [← r1]
    unfold jm_285
    rw [sp_ck (by omega), sp_ck (by omega), show 320 * (p : Int) + (m : Int) = ((320 * p + m : Nat) : Int) from by omega, i1, sp_bd, show ((320 * p + m : Nat) : Int) = 320 * (p : Int) + (m : Int) from by omega, st]
  · have e : RUNf up p T0 320 (stN φ p T0 W a m) m ↔ (stN φ p T0 W a m ∧ RUNf up p T0 320 True m) := ⟨fun z => ⟨z.1.1, ⟨trivial, z.1.2⟩, z.2⟩, fun z => ⟨⟨z.1, z.2.1.2⟩, z.2.2⟩⟩
    rcases r2 with ⟨y, y2⟩ | ⟨y, y2⟩
    · exact Or.inl ⟨y, e.mp y2⟩
    · exact Or.inr ⟨y, fun z => y2 (e.mpr z)⟩
end OPYA
