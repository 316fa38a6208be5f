/-! THE READER: groups that have a name -/
section RGRP4
variable {Q k n m w d N M D lv t : Nat} {φ ψ own inn G R ws y : Nat → Nat} {P q : Nat → Int} {S T S0 T0 S1 S' S2 T2 T1 T3 U : ev_St}
/-- "(?<a>" -/
theorem tk_name {p a : Int} (hk : ev_isOb k 5 = true) (hkr : 232 ≤ k) (H : RIy k lv ws N M D φ ψ own inn G R y P q S T) (hp : T.1 645 lv = p) (hc : sp_at S (ws lv) p = 40) (h1 : sp_at S (ws lv) (p + 1) = 63) (h2 : sp_at S (ws lv) (p + 2) = 60) (ha : sp_at S (ws lv) (p + 3) = a) (ha1 : a ≠ 61 ∧ a ≠ 33) : TK0 k lv ws (p + 5) S T (jm_85 Q S) (jm_263 Q T) := by
  have ht := H.1.2.1
  have hp0 := (ht.2.2.2.1 lv (Nat.le_refl _)).2.1
  have hin0 := at_in (S := S) (w := ws lv) (p := p) (by omega) (by rw [hc]; omega)
  have h120 := (LV_tx ht.1 ht.2.1 (ht.2.2.2.1 lv (Nat.le_refl _)).1).2.2.1
  have h25 := H.1.2.2.2.2.2.2.2
  have h9 := H.1.2.2.2.2.2.2.1
  obtain ⟨al1, al2⟩ := al_B hk
  obtain ⟨ee, he⟩ : ∃ ee, sp_at S (ws lv) (p + 4) = ee := ⟨_, rfl⟩
  have redC : ∀ {A : Option (Int × ev_St)}, ((∃ S', A = some (0, S')) ∨ ∃ S', A = some (1, S')) → jm_105 Q (ev_pI S 3 8 (p + 1)) = A → jm_85 Q S = A := fun {A} hA hr => by
    rw [br_C ht hp.symm hc]
    unfold jm_102
    rw [pk_Sp ht (by omega), sp_bd, Int.add_zero, h1, if_pos (by decide), pk_Sp ht (by omega), sp_bd, Int.add_zero, h1, if_pos rfl, pk_Sp ht (by omega), sp_bd, show p + 1 + 1 = p + 2 from by omega, h2, if_neg (show ¬ ((60 : Int) = 33) by decide), if_neg (show ¬ ((60 : Int) = 38) by decide), if_neg (show ¬ ((60 : Int) = 40) by decide), if_neg (by decide), if_neg (show ¬ ((60 : Int) = 58) by decide), if_pos rfl, hr, fin_bd hA]
    exact fin_bd hA
  have body : ∀ (b : Int) (B : Option (Unit × ev_St)), (b = 0 ∨ b = 1) → (b = 1 → B = some ((), xS lv T (p + 5) 1)) → (b = 0 → jm_259 Q (a - 97) (xS lv T (p + 5) 0) = B ∧ ∃ T', B = some ((), T')) → -1000 ≤ a ∧ a ≤ 1000 → (ev_if (ev_bl b) (ev_b (ev_pI (xS lv T (p + 2) 0) 621 25 b) fun s131 => ev_bd (jm_234 Q 3 s131) fun _ s133 => ev_b (s133.1 621 25) fun x134 => if x134 ≠ 0 then (some ((), s133)) else (ev_ck (a - 97) fun x136 => ev_bd (jm_259 Q x136 s133) fun _ s137 => some ((), s137)))) = B := fun b B hb z1 z0 hA => by
    rw [sp_if (show ev_bl b from hb), sp_b, xS_w, xG ht (by omega), sp_bd, show p + 2 + 3 = p + 5 from by omega, sp_b, xS_25]
    rcases hb with rfl | rfl
    · obtain ⟨y1, T', y2⟩ := z0 rfl
      rw [if_neg (fun z => z rfl), sp_ck (by omega), y1, y2, sp_bd]
    · rw [if_pos (by decide), z1 rfl]
  have runR : ∀ (b : Int) (T3 : ev_St), ((b = 0 ∧ ch_l a = 1 ∧ ee = 62) ∨ (b = 1 ∧ ¬ (ch_l a = 1 ∧ ee = 62))) → (b = 1 → T3 = xS lv T (p + 5) 1) → (b = 0 → jm_259 Q (a - 97) (xS lv T (p + 5) 0) = some ((), T3)) → -1000 ≤ a ∧ a ≤ 1000 → jm_263 Q T = some ((), T3) := fun b T3 hb z1 z0 hA => by
    rw [br_R ht hp.symm hc, if_pos h1, xS_0 h25]
    unfold jm_261
    rw [xT ht (by omega), sp_bd, xT ht (by omega), sp_bd, xT ht (by omega), sp_bd, Int.add_zero, h2, show p + 2 + 1 = p + 3 from by omega, ha, show p + 2 + 2 = p + 4 from by omega, he, sp_jn, if_neg (fun z => z rfl), sp_jn, if_neg ha1.1, if_pos ha1.2]
    try dsimp only
    rw [if_neg (fun z => z rfl), sp_b, xS_25, sp_jn, sp_jn, if_neg (fun z => z rfl), sp_224, sp_bd]
    by_cases y1 : ch_l a = 1
    · rw [if_neg (by omega)]
      by_cases y2 : ee = 62
      · rw [if_pos y2]
        try dsimp only
        rw [body 0 (some ((), T3)) (Or.inl rfl) (fun z => absurd z (by decide)) (fun _ => ⟨z0 (by omega), T3, rfl⟩) hA, sp_bd]
      · rw [if_neg y2]
        try dsimp only
        rw [body 1 (some ((), T3)) (Or.inr rfl) (fun _ => by rw [z1 (by omega)]) (fun z => absurd z (by decide)) hA, sp_bd]
    · have y3 : ch_l a = 0 := by
        unfold ch_l at y1 ⊢
        split at y1
        · exact absurd rfl y1
        · rename_i e
          rw [if_neg e]
      rw [if_pos y3]
      try dsimp only
      rw [body 1 (some ((), T3)) (Or.inr rfl) (fun _ => by rw [z1 (by omega)]) (fun z => absurd z (by decide)) hA, sp_bd]
  have hA : -1000 ≤ a ∧ a ≤ 1000 := by
    rcases (LV_tx ht.1 ht.2.1 (ht.2.2.2.1 lv (Nat.le_refl _)).1).2.2.2 (p + 3) with z | z
    · omega
    · rw [ha] at z
      unfold sp_sign at z
      split at z
      · omega
      · exact absurd z (by decide)
  by_cases good : ¬ (ch_l a = 1 ∧ ee = 62)
  · have e105 : ∃ S', jm_105 Q (ev_pI S 3 8 (p + 1)) = some (0, S') := by
      unfold jm_105
      rw [pk_Sp ht (by omega), sp_bd, show p + 1 + 2 = p + 3 from by omega, ha, if_pos ha1.1, if_pos ha1.2, sp_209, sp_bd]
      by_cases y1 : ch_l a = 0
      · rw [if_pos y1]
        exact ⟨_, rfl⟩
      · have y3 : ch_l a = 1 := by
          unfold ch_l at y1 ⊢
          split
          · rfl
          · rename_i e
            rw [if_neg e] at y1
            exact absurd rfl y1
        rw [if_neg y1, pk_Sp ht (by omega), sp_bd, show p + 1 + 3 = p + 4 from by omega, he, if_pos (fun z => good ⟨y3, z⟩)]
        exact ⟨_, rfl⟩
    obtain ⟨S', s1⟩ := e105
    exact Or.inl ⟨S', xS lv T (p + 5) 1, redC (Or.inl ⟨S', rfl⟩) s1, runR 1 _ (Or.inr ⟨rfl, good⟩) (fun _ => rfl) (fun z => absurd z (by decide)) hA, xS_25⟩
  obtain ⟨ga, gb⟩ := Classical.not_not.mp good
  have hl : 97 ≤ a ∧ a ≤ 122 := by
    unfold ch_l at ga
    split at ga
    · rename_i e
      exact e
    · exact absurd ga (by decide)
  have hin := at_in (S := S) (w := ws lv) (p := p + 4) (by omega) (by rw [he]; omega)
  obtain ⟨l, hl2⟩ : ∃ l : Nat, a - 97 = (l : Int) := ⟨(a - 97).toNat, by omega⟩
  have hl26 : l < 26 := by omega
  have hnm := H.1.2.2.1.2.1 l hl26
  have e105 : ∀ (A : Option (Int × ev_St)), (S.1 (k + 11) l ≠ 0 → ∃ S', A = some (0, S')) → (S.1 (k + 11) l = 0 → ∃ x s, (x = 0 ∨ x = 1) ∧ jm_104 Q (ev_pI S 3 8 (p + 5)) = some (x, s) ∧ s.2.2.1 3 9 = k + 1 ∧ A = some (x, ev_pI s (k + 11) l (s.1 k 12))) → (S.1 (k + 11) l ≠ 0 → A = some (0, ev_pI S 3 8 (p + 1))) → jm_105 Q (ev_pI S 3 8 (p + 1)) = A := fun A _ z1 z2 => by
    have e9 : (ev_pI S 3 8 (p + 1)).2.2.1 3 9 = k + 1 := h9
    have en : (ev_pI S 3 8 (p + 1)).1 (k + 11) l = S.1 (k + 11) l := rd_nk (by omega)
    unfold jm_105
    rw [pk_Sp ht (by omega), sp_bd, show p + 1 + 2 = p + 3 from by omega, ha, if_pos ha1.1, if_pos ha1.2, sp_209, sp_bd, if_neg (by omega), pk_Sp ht (by omega), sp_bd, show p + 1 + 3 = p + 4 from by omega, he, if_neg (fun z => z gb), sp_b, e9, sp_if (by omega), sp_ck (by omega), show k + 1 - 1 = k from rfl, sp_if (by rw [al2]; omega), hl2, Int.toNat_natCast, sp_b, en]
    by_cases z : S.1 (k + 11) l = 0
    · obtain ⟨x, s, y0, y1, y2, y3⟩ := z1 z
      rw [if_pos z, sp_b, rd_eq, sp_ck (by omega), sp_b, pI_pI, show p + 1 + 4 = p + 5 from by omega, y1, sp_bd, sp_b, y2, sp_if (by omega), sp_ck (by omega), sp_b, sp_if (by omega), sp_b, show k + 1 - 1 = k from rfl, sp_if (by rw [al2]; omega), Int.toNat_natCast, sp_b, sp_if (show ev_bl x from y0), y3]
    · rw [if_neg z, z2 z]
  have cR : ∀ {T3 : ev_St}, jm_259 Q (a - 97) (ev_pI T 645 lv (p + 5)) = some ((), T3) → jm_263 Q T = some ((), T3) := fun {T3} hr => runR 0 T3 (Or.inl ⟨rfl, ga, gb⟩) (fun z => absurd z (by decide)) (fun _ => by rw [← xS_0 h25]; exact hr) hA
  rcases sp_259 (Q := Q) (a := a - 97) (r := p + 5) H.1 hkr (by omega) (Or.inr ⟨l, hl26, hl2⟩) with ⟨z, T3, r1, r2⟩ | ⟨z9, zn, T1, T3, r1, u, hO⟩
  · by_cases hz : S.1 (k + 11) l = 0
    · have z9 : T.1 636 12 = 9 := by
        rcases z with z | ⟨m, _, z, z'⟩
        · exact z
        · have e : m = l := by omega
          rw [e] at z'
          omega
      rcases sp_104 (Q := Q) (r := p + 5) H.1 hkr (by omega) rfl with ⟨_, S', s1, s2⟩ | ⟨y, _⟩ | ⟨y, _⟩
      · exact Or.inl ⟨_, T3, redC (Or.inl ⟨_, rfl⟩) (e105 _ (fun _ => ⟨_, rfl⟩) (fun _ => ⟨0, S', Or.inl rfl, s1, by rw [s2]; exact h9, rfl⟩) (fun z => absurd hz z)), cR r1, r2⟩
      · exact absurd z9 y
      · exact absurd z9 y
    · exact Or.inl ⟨_, T3, redC (Or.inl ⟨_, rfl⟩) (e105 _ (fun _ => ⟨_, rfl⟩) (fun z => absurd z hz) (fun _ => rfl)), cR r1, r2⟩
  · have hz : S.1 (k + 11) l = 0 := by
      have := zn l hl26 hl2
      omega
    rcases sp_104 (Q := Q) (r := p + 5) H.1 hkr (by omega) rfl with ⟨y, _⟩ | ⟨_, y, S', s1, s2⟩ | ⟨_, y, S', s1, s2⟩
    · exact absurd y z9
    · exact Or.inl ⟨_, T3, redC (Or.inl ⟨_, rfl⟩) (e105 _ (fun _ => ⟨_, rfl⟩) (fun _ => ⟨0, S', Or.inl rfl, s1, by rw [s2]; exact h9, rfl⟩) (fun z => absurd hz z)), cR r1, grp_25 H.1 u hO y⟩
    · obtain ⟨f1, f2, f3, f4, f5⟩ := grS (S := S) (r := p + 5) (g := T.1 636 12) (v := S.1 3 14 + 1) hkr
      obtain ⟨n1, n2, n3, n4, n5, n6⟩ := RIy_n H.1
      have b12 : S'.1 k 12 = T.1 636 12 + 1 := by rw [s2.2.2.1 _ _ (by omega) (by omega), f4]
      have b9 : S'.2.2.1 3 9 = k + 1 := by rw [s2.2.2.2]; exact h9
      obtain ⟨q1, q2⟩ := tk_grpA (S1 := ev_pI (ev_pI (ev_pI (ev_pI (ev_pI S 3 8 (p + 5)) k 12 (T.1 636 12 + 1)) 3 8 (p + 5)) 3 14 (S.1 3 14 + 1)) (k + 11) l (T.1 636 12 + 1)) H hkr (by omega) rfl z9 (Or.inr (by omega)) y u hO (fun x g a b c => by rw [rd_nk (by omega)]; exact f1 x g a b) (by rw [rd_nk (by omega)]; exact f2) (by rw [rd_nk (by omega), f3, rd_nf (by omega)]) rfl (by rw [rd_nk (by omega)]; exact f4) (fun j hj => by
        by_cases e : j = l
        · rw [e, rd_eq, if_pos (by omega)]
        · rw [rd_nf (by omega), f5, if_neg (by omega)]) (BGc_w s2 ⟨by omega, by omega⟩)
      exact Or.inr ⟨_, T3, redC (Or.inr ⟨_, rfl⟩) (e105 _ (fun z => absurd hz z) (fun _ => ⟨1, S', Or.inr rfl, s1, b9, by rw [b12]⟩) (fun z => absurd hz z)), cR r1, q1, q2⟩
end RGRP4
