/-! THE READER: groups that have a number, the tokens -/
section RGRP3
variable {Q k n m w d N M D lv t : Nat} {φ ψ own inn G R ws y : Nat → Nat} {P q : Nat → Int} {S T S0 T0 S1 S' S2 T2 T1 T3 U : ev_St}
theorem grX_n {g a : Int} {l : Nat} (ha : a = -1 ∨ 0 ≤ a) : (grX N g a T).1 638 (312 + l) = if a = (l : Int) then g + 1 else T.1 638 (312 + l) := by
  unfold grX grU
  by_cases z : a = -1
  · rw [if_pos z, if_neg (by omega), rd_nk (by omega), rd_nk (by omega), rd_nk (by omega)]
  · rw [if_neg z]
    by_cases e : a = (l : Int)
    · rw [if_pos e, show (312 + a).toNat = 312 + l from by omega, rd_eq]
    · rw [if_neg e, rd_nf (by omega), rd_nk (by omega), rd_nk (by omega), rd_nk (by omega)]
theorem tk_grpA {r a g : Int} (H : RIy k lv ws N M D φ ψ own inn G R y P q S T) (hkr : 232 ≤ k) (hr : T.1 645 lv + 1 ≤ r ∧ r ≤ S.1 (ws lv) 1) (hg : T.1 636 12 = g) (hg9 : g ≠ 9) (ha : a = -1 ∨ 0 ≤ a) (lt : T.1 621 27 < 150) (u : ADr N 8 (ev_pI T 645 lv r) T1) (hO : OPr (D + 1) N (N + 1) 0 (grX N g a T1) T3) (s1 : ∀ x g, ¬ (x = 3 ∧ g = 14) → x ≠ k → x ≠ k + 11 → S1.1 x g = (ev_pI S 3 8 r).1 x g) (s1k : S1.1 k 11 = (ev_pI S 3 8 r).1 k 11) (s14 : S1.1 3 14 = (ev_pI S 3 8 r).1 3 14 + 1) (s2 : S1.2 = (ev_pI S 3 8 r).2) (s12 : S1.1 k 12 = g + 1) (sn : ∀ l : Nat, l < 26 → S1.1 (k + 11) l = if a = (l : Int) then g + 1 else S.1 (k + 11) l) (s : BGc (D + 1) 18 (g + 1) 0 S1 S') : RIa k lv ws S' T3 ∧ TKp lv r S T S' T3 := by
  have p0 := H.1.2.1.2.2.2.1 lv (Nat.le_refl _)
  have mv : MVd lv r S T (ev_pI S 3 8 r) (ev_pI T 645 lv r) := mv_pI
  have h0 := RIb_mv H.1 hkr mv (by omega)
  obtain ⟨n1, n2, n3, n4, n5, n6⟩ := RIy_n H.1
  obtain ⟨s0, rc, hs, hrc, k1, k2, k3⟩ := RDR_lk h0.1.1
  have hgg := H.1.2.2.1
  have g0 := hgg.1.2
  rw [hg] at g0
  have hgn := hgg.2.1
  rw [hg] at hgn
  have f1 := u.2.2.1
  rw [k1, k2] at f1
  have hO' := hO
  obtain ⟨⟨p1, p2, p3, p4, p5⟩, ⟨o1, o2, o3, o4, o5⟩, ⟨r1, r2, r3, r4, r5, r6⟩, g1, g2, g3, g4⟩ := hO
  have s' := s
  obtain ⟨⟨b1, b2, b3, b4, b5⟩, ⟨b6, b7⟩, b8, b9⟩ := s
  have eg : (ev_pI T 645 lv r).1 636 12 = g := (rd_nk (by omega)).trans hg
  refine tk_openA (c := 8) (f := 0) (x := 18) (yv := g + 1) (ng := g + 1) H hkr mv ⟨hr.1, hr.2⟩ (by decide) rfl (fun _ => rfl) (by rw [rd_nk (by omega)]; exact lt) s1 s1k s14 s2 u ⟨grX_v.2.1, by rw [grX_o (by omega)]; exact u.2.1.2.2.2.2.1⟩ (fun a g h h1 h2 h3 => grX_o (by omega)) grX_2 hO' s' (RIg_grp (g := g) h0.1.1 h0.2.2.1 eg hg9 ⟨?_, fun j => ?_⟩ (fun l hl => ?_) ⟨?_, ?_, fun m hm => ?_⟩ (fun g' hg' => ⟨?_, ?_⟩) ⟨?_, ?_⟩) ?_ (fun e f h => grX_low g0.1 ha h)
  · rw [b8 _ _ (by omega) (by omega), s12]
  · rw [b8 _ _ (by omega) (by omega), s1 _ _ (by omega) (by omega) (by omega)]
  · have e1 : S'.1 (k + 11) l = if a = (l : Int) then g + 1 else S.1 (k + 11) l := by
      rw [b8 _ _ (by omega) (by omega), sn l hl]
    have e2 : T3.1 638 (312 + l) = if a = (l : Int) then g + 1 else T.1 638 (312 + l) := by
      rw [g2 _ _ (by omega) (by omega) (by omega) (by omega) (by omega), grX_n ha, ADr_o u (by omega) (by omega) (by omega), rd_nk (by omega)]
    have e3 := hgn l hl
    rw [e1, e2]
    by_cases e : a = (l : Int)
    · rw [if_pos e, if_pos e]
      omega
    · rw [if_neg e, if_neg e]
      omega
  · rw [g2 _ _ (by omega) (by omega) (by omega) (by omega) (by omega), grX_v.1]
  · rw [g2 _ _ (by omega) (by omega) (by omega) (by omega) (by omega), grX_v.2.2.1]
  · rw [g2 _ _ (by omega) (by omega) (by omega) (by omega) (by omega), grX_v.2.2.2 m g0.1 hm, ADr_o u (by omega) (by omega) (by omega)]
  · rw [g2 _ _ (by omega) (by omega) (by omega) (by omega) (by omega), grX_o (by omega), f1 _ _ (by omega) (by omega) (by omega) (by omega)]
  · rw [g2 _ _ (by omega) (by omega) (by omega) (by omega) (by omega), grX_o (by omega), f1 _ _ (by omega) (by omega) (by omega) (by omega)]
  · rw [g2 _ _ (by omega) (by omega) (by omega) (by omega) (by omega), grX_o (by omega), u.2.1.1]
  · rw [g2 _ _ (by omega) (by omega) (by omega) (by omega) (by omega), grX_v.2.1]
  · have e636 : T3.1 636 12 = g + 1 := by rw [g2 _ _ (by omega) (by omega) (by omega) (by omega) (by omega), grX_v.1]
    have e628 : T3.1 628 (3840 + N) = g + 1 := by rw [g2 _ _ (by omega) (by omega) (by omega) (by omega) (by omega), grX_v.2.1]
    refine RV_open H.2.2.1.2.2.2 (fun c m a b x y hm => ?_) (fun m c hm hc => ?_) ⟨by rw [e636, hg]; omega, fun j h1 h2 => ?_⟩ ?_ ?_ (fun z => ⟨by rw [e628, e636]; exact Int.le_refl _, ?_⟩) ⟨r1, r6⟩ ⟨by rw [g1]; omega, by rw [g2 _ _ (by omega) (by omega) (by omega) (by omega) (by omega), grX_o (by omega), u.2.1.2.2.1]⟩ ⟨r2, r3⟩ (by rw [g2 625 _ (by omega) (by omega) (by omega) (by omega) (by omega), grX_o (by omega), u.2.1.1]; decide)
    · rw [g2 _ _ (by omega) (by omega) (by omega) (by omega) (by omega), grX_o (by omega), f1 _ _ (by omega) (by omega) (by omega) (by omega), rd_nk (by omega)]
    · by_cases e : c = rc ∧ m = s0
      · refine Or.inr ⟨?_, LKc_i (lk_kd H.1.1.1 k3) e (by rw [g2 625 _ (by omega) (by omega) (by omega) (by omega) (by omega), grX_o (by omega), u.2.1.1]; decide)⟩
        rw [g2 _ _ (by omega) (by omega) (by omega) (by omega) (by omega), grX_o (by omega), e.1, e.2]
        have := u.1.2.2.2.2.2
        rw [k1, k2] at this
        exact this
      · exact Or.inl (by rw [g2 _ _ (by omega) (by omega) (by omega) (by omega) (by omega), grX_o (by omega), f1 _ _ (by omega) (by omega) (by omega) (by omega), rd_nk (by omega)])
    · rw [g2 _ _ (by omega) (by omega) (by omega) (by omega) (by omega), grX_v.2.2.2 _ g0.1 (by omega), ADr_o u (by omega) (by omega) (by omega), rd_nk (by omega)]
    · rw [e628, g2 625 _ (by omega) (by omega) (by omega) (by omega) (by omega), grX_o (by omega), u.2.1.1, g2 629 _ (by omega) (by omega) (by omega) (by omega) (by omega), grX_o (by omega), u.2.1.2.2.2.2.1]
      exact nv_p (by omega) (by omega) (fun _ => by omega) (fun z => absurd z (by decide))
    · rw [g2 _ _ (by omega) (by omega) (by omega) (by omega) (by omega), grX_o (by omega), u.2.1.2.2.2.2.2.1]
    · rw [e628, g2 _ _ (by omega) (by omega) (by omega) (by omega) (by omega), show 120 + (g + 1).toNat = (120 + (g + 1)).toNat from by omega]
      exact grX_v.2.2.1
theorem grp_25 {r a g : Int} (h : RIb k lv ws N M D φ ψ own inn G R P q S T) (u : ADr N 8 (ev_pI T 645 lv r) T1) (hO : OPr (D + 1) N (N + 1) 0 (grX N g a T1) T3) (z : 150 ≤ T.1 621 27) : T3.1 621 25 = 1 := by
  obtain ⟨n1, n2, n3, n4, n5, n6⟩ := RIy_n h
  rw [hO.2.2.2.2.1 _ _ (by omega) (by omega) (by omega) (by omega) (by omega), grX_o (by omega), u.1.2.2.1, if_neg]
  intro y
  have y2 := y.2
  rw [rd_nk (by omega)] at y2
  omega
theorem grS {r g v : Int} (hkr : 232 ≤ k) : (∀ x j, ¬ (x = 3 ∧ j = 14) → x ≠ k → (ev_pI (ev_pI (ev_pI (ev_pI S 3 8 r) k 12 (g + 1)) 3 8 r) 3 14 v).1 x j = (ev_pI S 3 8 r).1 x j) ∧ (ev_pI (ev_pI (ev_pI (ev_pI S 3 8 r) k 12 (g + 1)) 3 8 r) 3 14 v).1 k 11 = (ev_pI S 3 8 r).1 k 11 ∧ (ev_pI (ev_pI (ev_pI (ev_pI S 3 8 r) k 12 (g + 1)) 3 8 r) 3 14 v).1 3 14 = v ∧ (ev_pI (ev_pI (ev_pI (ev_pI S 3 8 r) k 12 (g + 1)) 3 8 r) 3 14 v).1 k 12 = g + 1 ∧ ∀ j, (ev_pI (ev_pI (ev_pI (ev_pI S 3 8 r) k 12 (g + 1)) 3 8 r) 3 14 v).1 (k + 11) j = S.1 (k + 11) j := by
  refine ⟨fun x j h1 h2 => ?_, ?_, rd_eq, ?_, fun j => ?_⟩
  · rw [sp_pI1, if_neg h1, sp_pI1]
    by_cases e : x = 3 ∧ j = 8
    · rw [if_pos e, e.1, e.2, rd_eq]
    · rw [if_neg e, rd_nk (by omega)]
  · rw [rd_nk (by omega), rd_nk (by omega), rd_nf (by omega)]
  · rw [rd_nk (by omega), rd_nk (by omega), rd_eq]
  · rw [rd_nk (by omega), rd_nk (by omega), rd_nk (by omega), rd_nk (by omega)]
/-- "(" -/
theorem tk_grp0 {p : Int} (hk : ev_isOb k 5 = true) (hkr : 232 ≤ k) (H : RIy k lv ws N M D φ ψ own inn G R y P q S T) (hp : T.1 645 lv = p) (hc : sp_at S (ws lv) p = 40) (h1 : sp_at S (ws lv) (p + 1) ≠ 63) (h2 : sp_at S (ws lv) (p + 1) ≠ 42) : TK0 k lv ws (p + 1) S T (jm_85 Q S) (jm_263 Q T) := by
  have ht := H.1.2.1
  have hp0 := (ht.2.2.2.1 lv (Nat.le_refl _)).2.1
  have hin := at_in (S := S) (w := ws lv) (p := p) (by omega) (by rw [hc]; omega)
  have h120 := (LV_tx ht.1 ht.2.1 (ht.2.2.2.1 lv (Nat.le_refl _)).1).2.2.1
  have redC : ∀ {A : Option (Int × ev_St)}, ((∃ S', A = some (0, S')) ∨ ∃ S', A = some (1, S')) → jm_104 Q (ev_pI S 3 8 (p + 1)) = A → jm_85 Q S = A := fun {A} hA hr => by
    rw [br_C ht hp.symm hc]
    unfold jm_102
    rw [pk_Sp ht (by omega), sp_bd, Int.add_zero, if_pos h2, pk_Sp ht (by omega), sp_bd, Int.add_zero, if_neg h1, hr, fin_bd hA]
    exact fin_bd hA
  have runR : ∀ {T3 : ev_St}, jm_259 Q (-1) (ev_pI T 645 lv (p + 1)) = some ((), T3) → jm_263 Q T = some ((), T3) := fun {T3} hr => by
    rw [br_R ht hp.symm hc, if_neg h1, if_neg h2, hr, sp_bd]
  rcases sp_259 (Q := Q) (a := -1) (r := p + 1) H.1 hkr (by omega) (Or.inl rfl) with ⟨z, T3, r1, r2⟩ | ⟨z9, zn, T1, T3, r1, u, hO⟩
  · have z9 : T.1 636 12 = 9 := by
      rcases z with z | ⟨l, _, z, _⟩
      · exact z
      · omega
    rcases sp_104 (Q := Q) (r := p + 1) H.1 hkr (by omega) rfl with ⟨_, S', s1, _⟩ | ⟨y, _⟩ | ⟨y, _⟩
    · exact Or.inl ⟨S', T3, redC (Or.inl ⟨S', rfl⟩) s1, runR r1, r2⟩
    · exact absurd z9 y
    · exact absurd z9 y
  · rcases sp_104 (Q := Q) (r := p + 1) H.1 hkr (by omega) rfl with ⟨y, _⟩ | ⟨_, y, S', s1, _⟩ | ⟨_, y, S', s1, s2⟩
    · exact absurd y z9
    · exact Or.inl ⟨S', T3, redC (Or.inl ⟨S', rfl⟩) s1, runR r1, grp_25 H.1 u hO y⟩
    · obtain ⟨f1, f2, f3, f4, f5⟩ := grS (S := S) (r := p + 1) (g := T.1 636 12) (v := S.1 3 14 + 1) hkr
      obtain ⟨q1, q2⟩ := tk_grpA (S1 := ev_pI (ev_pI (ev_pI (ev_pI S 3 8 (p + 1)) k 12 (T.1 636 12 + 1)) 3 8 (p + 1)) 3 14 (S.1 3 14 + 1)) H hkr (by omega) rfl z9 (Or.inl rfl) y u hO (fun x g a b _ => f1 x g a b) f2 (by rw [f3, rd_nf (by omega)]) rfl f4 (fun l hl => by rw [if_neg (by omega), f5]) s2
      exact Or.inr ⟨S', T3, redC (Or.inr ⟨S', rfl⟩) s1, runR r1, q1, q2⟩
end RGRP3
