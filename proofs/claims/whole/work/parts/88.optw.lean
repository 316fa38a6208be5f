/-! THE READER: classes and what stands behind a backslash -/
section RTOK4
variable {Q k n m w d N M D lv : Nat} {φ ψ own inn G R ws y : Nat → Nat} {P q : Nat → Int} {S T S0 T0 S2 T2 T1 : ev_St}
theorem wm_of {L : List (Nat × Nat × Nat)} {q c f : Nat} (h : ∀ e ∈ L, ¬ (e.1 = q ∧ e.2.1 = c ∧ (e.2.2 = 999999 ∨ e.2.2 = f))) : wm L q c f = false := by
  cases e : wm L q c f with
  | false => rfl
  | true =>
    exfalso
    obtain ⟨x, hx, e1⟩ := List.any_eq_true.mp e
    simp only [Bool.and_eq_true, Bool.or_eq_true, Nat.beq_eq] at e1
    exact h x hx ⟨e1.1, e1.2.1, e1.2.2⟩
/-- a class of characters -/
theorem tk_class (hQ : 300 ≤ Q) (hk : ev_isOb k 5 = true) (hkr : 232 ≤ k) (H : RIy k lv ws N M D φ ψ own inn G R y P q S T) (hc : sp_at S (ws lv) (T.1 645 lv) = 91) : TK0 k lv ws (nx (sp_at S (ws lv)) (T.1 645 lv)) S T (jm_85 Q S) (jm_263 Q T) := by
  obtain ⟨⟨g1, g2, g3, g4, g5⟩, g6, g7⟩ := hd_85 (Q := Q) H.1.2.1 hc (by decide)
  obtain ⟨r1, r2, r3, r4, r5, r6⟩ := RT_ofL H.1.2.1
  have hf := H.1.2.2.2.2.1
  have fl := (fl_1 hf.2).1
  have rp : rpos T = T.1 645 lv := by omega
  have t28 : (T.1 621 28).toNat = lv := by
    have := H.1.2.1.2.2.1
    omega
  have tx := r2
  unfold isTx at tx
  have e3 : (ev_pI S 3 8 (T.1 645 lv + 1)).1 3 11 = T.1 621 40 := by rw [rd_nf (by omega), hf.1]
  have RT0 : RT (ev_pI S 3 8 (T.1 645 lv + 1)) (ws lv) T := RT_cS r1 (fun g => rd_nk (by omega)) (fun g => rd_nk (by omega))
  have at0 : sp_at (ev_pI S 3 8 (T.1 645 lv + 1)) (ws lv) = sp_at S (ws lv) := funext fun p => by
    unfold sp_at
    rw [rd_nk (by omega), rd_nk (by omega)]
  obtain ⟨f, hfv⟩ : ∃ f : Int, f = if ev_iand (T.1 621 40) 1 = 0 then 0 else 1 := ⟨_, rfl⟩
  have hff : (f = 0 ∧ ev_iand (T.1 621 40) 1 = 0) ∨ (f = 1 ∧ ev_iand (T.1 621 40) 1 = 1) := by
    rcases fl with e | e
    · exact Or.inl ⟨by rw [hfv, if_pos e], e⟩
    · exact Or.inr ⟨by rw [hfv, if_neg (by omega)], e⟩
  have cl := sp_cls (Q := Q) hQ r2 RT0 (by rw [at0, rp, hc]) (by omega) H.1.2.2.2.2.2.2.2 hff
  rw [at0, rp] at cl
  have nxe : nx (sp_at S (ws lv)) (T.1 645 lv) = clF (sp_at S (ws lv)) 130 (if sp_at S (ws lv) (T.1 645 lv + 1) = 94 then T.1 645 lv + 2 else T.1 645 lv + 1) 0 := by
    unfold nx
    rw [if_neg (by omega), if_pos hc]
  rw [← nxe] at cl
  have redC : jm_85 Q S = ev_bd (jm_18 Q (ws lv + 1) (T.1 645 lv + 1) f (ev_pI S 3 8 (T.1 645 lv + 1))) fun x61 s60 => ev_b (ev_pI s60 3 8 x61) fun s62 => ev_b (s62.1 3 8) fun x63 => if x63 < 0 then (some (0, s62)) else (ev_b (s62.2.1 6 11) fun y65 => ev_b (s62.2.1 6 12) fun y66 => ev_bd (jm_90 Q y65 y66 s62) fun x68 s67 => if x68 = 0 then (some (0, s67)) else (some (1, s67))) := by
    unfold jm_85
    rw [g1, sp_bd, sp_b, g3, sp_ck (by omega), sp_b, if_neg (show ¬ ((91 : Int) = 36) by decide), if_neg (show ¬ ((91 : Int) = 40) by decide), if_neg (show ¬ ((91 : Int) = 41) by decide), if_neg (show ¬ ((91 : Int) = 42) by decide), if_neg (show ¬ ((91 : Int) = 43) by decide), if_neg (show ¬ ((91 : Int) = 46) by decide), if_neg (show ¬ ((91 : Int) = 63) by decide), if_pos rfl, show (ev_pI S 3 8 (T.1 645 lv + 1)).2.2.1 3 7 = ws lv + 1 from r6, sp_b, rd_eq, sp_b, sp_86, sp_bd, e3, ← hfv]
  have redR : jm_263 Q T = ev_bd (jm_253 Q T) fun _ s118 => ev_b (s118.2.1 621 41) fun y119 => ev_b (s118.2.1 621 42) fun y120 => ev_bd (jm_238 Q y119 y120 s118) fun _ s121 => some ((), s121) := by
    unfold jm_263
    rw [g2, sp_bd, sp_jn, if_neg (show ¬ ((91 : Int) = 63) by decide), if_neg (show ¬ ((91 : Int) = 42) by decide), if_neg (show ¬ ((91 : Int) = 43) by decide), if_pos (show ((91 : Int) ≠ 123) by decide), if_pos (show ((91 : Int) ≠ 92) by decide), if_neg (fun z => z rfl)]
  rcases cl with ⟨S', T', a1, a2, a3⟩ | ⟨S', T', a1, a2, a3, a4, a5, a6, a7, a8⟩
  · have eT := (ef_253 (Q := Q) (S := T)) _ _ a2
    obtain ⟨n1, n2, n3, n4, n5, n6⟩ := RIy_n H.1
    obtain ⟨b1, b2, b3⟩ := RDR_b H.1.1.1
    obtain ⟨T1, u1, u2⟩ := sp_238b (Q := Q) (a := T'.2.1 621 41) (b := T'.2.1 621 42) (T := T') (m := N) (by rw [eT.1 635 12 (by decide)]; exact H.1.1.1.1.1) (by omega) (by rw [eT.1 621 27 (by decide)]; omega) (by rw [eT.1 621 37 (by decide)]; exact b1) (by rw [eT.1 621 38 (by decide)]; exact b2)
    refine Or.inl ⟨ev_pI S' 3 8 (-1), _, ?_, by rw [redR, a2, sp_bd, sp_b, sp_b, u2, sp_bd], ?_⟩
    · rw [redC, a1, sp_bd, sp_b, sp_b, rd_eq, if_pos (by decide)]
    · show T1.1 621 25 = 1
      rw [u1.1.2.2.1, if_neg (fun z => a3 z.1)]
  · have eT := (ef_253 (Q := Q) (S := T)) _ _ a2
    have eS := (ef_18 (Q := Q) (S := ev_pI S 3 8 (T.1 645 lv + 1))) _ _ a1
    have hz := zo_253 (Q := Q) t28 a2
    rw [show (ev_pI S 3 8 (T.1 645 lv + 1)).1 (ws lv) 1 = S.1 (ws lv) 1 from rd_nk (by omega)] at a7
    have rpT : rpos T' = T'.1 645 lv := by
      unfold rpos
      rw [eT.1 621 28 (by decide), t28]
    have mv : MVd lv (rpos T') S T (ev_pI S' 3 8 (rpos T')) T' := by
      refine ⟨fun x g h1 h2 => ?_, rd_eq, fun x g h1 => ?_, fun x g h1 h2 => ?_, rpT.symm, ?_, fun c g h1 h2 => ?_, fun c g h1 => ?_⟩
      · rw [sp_pI1, if_neg h1, eS.1 x g (wm_of (by
          simp only [wl_18, List.forall_mem_cons, List.not_mem_nil, false_implies, implies_true, and_true]
          omega)), sp_pI1, if_neg h1]
      · show S'.2.2.1 x g = _
        rw [eS.2.2.1 x g (wm_of (by
          simp only [wl_18, List.forall_mem_cons, List.not_mem_nil, false_implies, implies_true, and_true]
          omega))]
        rfl
      · by_cases z1 : x = 645
        · subst z1
          exact hz g (fun z => h1 ⟨rfl, z⟩)
        · by_cases z2 : x = 621 ∧ g = 25
          · rw [z2.1, z2.2, a5, H.1.2.2.2.2.2.2.2]
          · rw [eT.1 x g (wm_of (by
              simp only [wl_253, List.forall_mem_cons, List.not_mem_nil, false_implies, implies_true, and_true]
              omega))]
      · exact funext fun x => funext fun g => eT.2.2.1 x g rfl
      · exact eT.2.1 c g (wm_of (by
          simp only [wl_253, List.forall_mem_cons, List.not_mem_nil, false_implies, implies_true, and_true]
          omega))
      · show S'.2.1 c g = _
        rw [eS.2.1 c g (wm_of (by
          simp only [wl_18, List.forall_mem_cons, List.not_mem_nil, false_implies, implies_true, and_true]
          omega))]
        rfl
    obtain ⟨T2, t1, t2⟩ := tk_set (Q := Q) (p := rpos T') H hk hkr mv (by omega) a3 a4
    rw [← a8]
    refine TK0_of t2 (fun hA => ?_) (by rw [redR, a2, sp_bd, sp_b, sp_b, t1, sp_bd])
    rw [redC, a1, sp_bd, sp_b, sp_b, rd_eq, if_neg (by omega), sp_b, sp_b]
    exact fin_bd2 hA
end RTOK4
