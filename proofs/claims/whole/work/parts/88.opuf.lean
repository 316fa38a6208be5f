/-! THE READER: a row ends, on both sides -/
section RROW
variable {Q k n m w d N M D lv : Nat} {φ ψ own inn G R ws y : Nat → Nat} {P q : Nat → Int} {S T S0 T0 S2 T2 T1 U : ev_St}
/-- where the new row is linked -/
def rkc (k o : Nat) (l : Int) : Nat := if l = -1 then o else k + 5
def rkp (l : Int) : Nat := if l = -1 then 4 else l.toNat
theorem rk_i (k o : Nat) (l : Int) : (l = -1 ∧ rkc k o l = o ∧ rkp l = 4) ∨ (l ≠ -1 ∧ rkc k o l = k + 5 ∧ rkp l = l.toNat) := by
  unfold rkc rkp
  by_cases e : l = -1
  · exact Or.inl ⟨e, if_pos e, if_pos e⟩
  · exact Or.inr ⟨e, if_neg e, if_neg e⟩
def ERc (k o M : Nat) (S S' : ev_St) : Prop := (S'.1 k 11 = (M : Int) + 1 ∧ S'.1 (k + 1) M = 15 ∧ S'.1 (k + 4) M = S.1 o 6 ∧ S'.1 (k + 5) M = -1) ∧ (S'.1 o 5 = (M : Int) ∧ S'.1 o 6 = -1 ∧ S'.1 o 7 = -1 ∧ S'.1 o 8 = -1) ∧ S'.1 3 13 = 0 ∧ S'.1 (rkc k o (S.1 o 5)) (rkp (S.1 o 5)) = (M : Int) ∧ (∀ x g, ¬ (x = 3 ∧ g = 13) → ¬ (x = k ∧ g = 11) → ¬ (k + 1 ≤ x ∧ x ≤ k + 7 ∧ g = M) → ¬ (x = o ∧ 5 ≤ g ∧ g ≤ 8) → ¬ (x = rkc k o (S.1 o 5) ∧ g = rkp (S.1 o 5)) → S'.1 x g = S.1 x g) ∧ S'.2 = S.2
theorem sp_99 {o : Nat} (hk : ev_isOb k 5 = true) (hkr : 232 ≤ k) (ho : 17 ≤ o ∧ o < 169) (h9 : S.2.2.1 3 9 = k + 1) (hn : S.1 k 11 = (M : Int)) (hh : M < 400) (hl : -1 ≤ S.1 o 5 ∧ S.1 o 5 < M) : ∃ S', jm_99 Q (o + 1) S = some (1, S') ∧ ERc k o M S S' := by
  obtain ⟨l1, l2, l3, l4, l5, l6, l7, l8, l9⟩ := al_Pt hk
  obtain ⟨W, a1, ⟨a2, a3, a4, a5, a6⟩, a7, a8⟩ := sp_58 (Q := Q) (S := S) (a := 15) (b := 0) (c := 0) hk hn hh
  have w9 : W.2.2.1 3 9 = k + 1 := by rw [a8, h9]
  have w6 : W.1 o 6 = S.1 o 6 := a7 _ _ (by omega) (by omega)
  have w5 : W.1 o 5 = S.1 o 5 := a7 _ _ (by omega) (by omega)
  obtain ⟨X, hX⟩ : ∃ X, X = ev_pI W (k + 4) M (S.1 o 6) := ⟨_, rfl⟩
  have x9 : X.2.2.1 3 9 = k + 1 := by rw [hX]; exact w9
  have x5 : X.1 o 5 = S.1 o 5 := by rw [hX, rd_nk (by omega), w5]
  have rk := rk_i k o (S.1 o 5)
  have rr : rkc k o (S.1 o 5) = o ∨ rkc k o (S.1 o 5) = k + 5 := by omega
  obtain ⟨lc, hlc⟩ : ∃ x, x = rkc k o (S.1 o 5) := ⟨_, rfl⟩
  obtain ⟨lp, hlp⟩ : ∃ x, x = rkp (S.1 o 5) := ⟨_, rfl⟩
  unfold ERc
  rw [← hlc, ← hlp] at rk ⊢
  rw [← hlc] at rr
  have nm : ¬ (lc = k + 5 ∧ lp = M) := by omega
  obtain ⟨Y, hY⟩ : ∃ Y, Y = ev_pI (ev_pI (ev_pI (ev_pI (ev_pI (ev_pI X lc lp (M : Int)) o 5 (M : Int)) o 6 (-1)) o 7 (-1)) o 8 (-1)) 3 13 0 := ⟨_, rfl⟩
  have yf : ∀ x g, ¬ (x = 3 ∧ g = 13) → ¬ (x = o ∧ 5 ≤ g ∧ g ≤ 8) → ¬ (x = lc ∧ g = lp) → Y.1 x g = X.1 x g := fun x g h1 h2 h3 => by
    rw [hY, sp_pI1, if_neg h1, sp_pI1, if_neg (by omega), sp_pI1, if_neg (by omega), sp_pI1, if_neg (by omega), sp_pI1, if_neg (by omega), sp_pI1, if_neg h3]
  have xf : ∀ x g, ¬ (x = k + 4 ∧ g = M) → X.1 x g = W.1 x g := fun x g h => by rw [hX, sp_pI1, if_neg h]
  refine ⟨Y, ?_, ⟨?_, ?_, ?_, ?_⟩, ⟨?_, ?_, ?_, ?_⟩, ?_, ?_, fun x g h1 h2 h3 h4 h5 => ?_, ?_⟩
  · unfold jm_99
    rw [h9, sp_b, sp_if (by omega), show k + 1 - 1 = k from rfl, a1, sp_bd, w9, sp_b, sp_if (by omega), show k + 1 - 1 = k from rfl, sp_59, if_pos (by rw [a2]; omega), sp_bd, if_pos (by decide), w9, sp_b, sp_if (by omega), sp_if (by omega), show o + 1 - 1 = o from rfl, w6, sp_b, show k + 1 - 1 = k from rfl, sp_if (by rw [l4]; omega), Int.toNat_natCast, sp_b, ← hX, x9, sp_b, sp_if (by omega), x5, sp_b, sp_if (by omega), show k + 1 - 1 = k from rfl, sp_59]
    have x11 : X.1 k 11 = (M : Int) + 1 := by rw [xf _ _ (by omega), a2]
    rcases rk with ⟨z1, z2, z3⟩ | ⟨z1, z2, z3⟩
    · rw [if_neg (by omega), sp_bd, sp_jn, if_pos rfl, sp_if (by omega), sp_b]
      try dsimp only
      rw [sp_if (by omega), sp_b, sp_if (by omega), sp_b, sp_if (by omega), sp_b, sp_if (by omega), sp_b, sp_b, hY, z2, z3]
    · rw [if_pos (by rw [x11]; omega), sp_bd, sp_jn, if_neg (by decide), x9, sp_b, sp_if (by omega), sp_if (by omega), x5, sp_b, show k + 1 - 1 = k from rfl, sp_if (by rw [l5]; omega), sp_b]
      try dsimp only
      rw [sp_if (by omega), sp_b, sp_if (by omega), sp_b, sp_if (by omega), sp_b, sp_if (by omega), sp_b, sp_b, hY, z2, z3]
  · rw [yf _ _ (by omega) (by omega) (by omega), xf _ _ (by omega), a2]
  · rw [yf _ _ (by omega) (by omega) (by omega), xf _ _ (by omega), a3]
  · rw [yf _ _ (by omega) (by omega) (by omega), hX, rd_eq]
  · rw [yf _ _ (by omega) (by omega) (by omega), xf _ _ (by omega)]
    exact a6 5 (by omega) (by omega)
  · rw [hY, rd_nk (by omega), rd_nf (by omega), rd_nf (by omega), rd_nf (by omega), rd_eq]
  · rw [hY, rd_nk (by omega), rd_nf (by omega), rd_nf (by omega), rd_eq]
  · rw [hY, rd_nk (by omega), rd_nf (by omega), rd_eq]
  · rw [hY, rd_nk (by omega), rd_eq]
  · rw [hY, rd_eq]
  · rw [hY, sp_pI1, if_neg (by omega), sp_pI1, if_neg (by omega), sp_pI1, if_neg (by omega), sp_pI1, if_neg (by omega), sp_pI1, if_neg (by omega), rd_eq]
  · rw [yf x g h1 h4 h5, xf x g (by omega), a7 x g h2 h3]
  · rw [hY]
    show X.2 = _
    rw [hX]
    exact a8
/-- the reference's row -/
def RWr (m r : Nat) (b : Int) (T T' : ev_St) : Prop := (T'.1 635 12 = (m : Int) + 1 ∧ T'.1 621 37 = (m : Int) ∧ T'.1 621 38 = -1 ∧ T'.1 621 39 = -1 ∧ T'.1 627 (3840 + r) = (m : Int)) ∧ (T'.1 625 (3840 + m) = 18 ∧ T'.1 626 (3840 + m) = -1 ∧ T'.1 627 (3840 + m) = -1 ∧ T'.1 630 (3840 + m) = -1) ∧ (T'.1 621 27 = T.1 621 27 + 1 ∧ T'.1 621 25 = (if b = 0 ∧ T.1 621 27 < 150 then 0 else 1)) ∧ (∀ c g, ¬ (c = 635 ∧ g = 12) → ¬ (625 ≤ c ∧ c ≤ 632 ∧ g = 3840 + m) → ¬ (c = 621 ∧ (g = 25 ∨ g = 27 ∨ g = 37 ∨ g = 38 ∨ g = 39)) → ¬ (c = 627 ∧ g = 3840 + r) → T'.1 c g = T.1 c g) ∧ (∀ c g, ¬ (633 ≤ c ∧ c ≤ 634 ∧ g = 3840 + m) → T'.2.1 c g = T.2.1 c g) ∧ T'.2.2 = T.2.2
theorem sp_241 {g r : Nat} (hd : T.1 621 31 = (d : Int) + 1) (hd2 : d < 159) (hg : T.1 646 d = (g : Int)) (hgm : g < m) (hr : T.1 621 37 = (r : Int)) (hrm : r < m) (hm : T.1 635 12 = (m : Int)) (hh : m < 320) (hc : 0 ≤ T.1 621 27 ∧ T.1 621 27 ≤ 1000) (h25 : T.1 621 25 = 0) : ∃ T', jm_241 Q T = some ((), T') ∧ RWr m r (if T.1 625 (3840 + g) = 13 ∧ T.1 626 (3840 + g) ≠ (r : Int) then 1 else 0) T T' := by
  obtain ⟨l1, l2, l3, l4, l5, l6, l7, l8, l9, l10, l11⟩ := al_N
  obtain ⟨o1, o2, o3, o4, o5⟩ := al_O
  have e1 : ((3840 : Int) + (g : Int)).toNat = 3840 + g := by omega
  obtain ⟨b, hb⟩ : ∃ b : Int, b = if T.1 625 (3840 + g) = 13 ∧ T.1 626 (3840 + g) ≠ (r : Int) then 1 else 0 := ⟨_, rfl⟩
  rw [← hb]
  have hb' : b = 0 ∨ b = 1 := by
    rw [hb]
    split
    · exact Or.inr rfl
    · exact Or.inl rfl
  obtain ⟨U, hU⟩ : ∃ U, U = ev_pI T 621 25 b := ⟨_, rfl⟩
  have u1 : ∀ c g, ¬ (c = 621 ∧ g = 25) → U.1 c g = T.1 c g := fun c g h => by rw [hU, sp_pI1, if_neg h]
  have u2 : U.2 = T.2 := by rw [hU]; rfl
  have u25 : U.1 621 25 = b := by rw [hU, rd_eq]
  obtain ⟨V, t1, t2, ⟨v1, v2, v3, v4, v5, v6, _⟩, t3, t4, t5⟩ := sp_235 (Q := Q) (a := 18) (T := U) (m := m) (by rw [u1 _ _ (by omega), hm]) hh
  have e27 : V.1 621 27 = T.1 621 27 := by rw [t3 _ _ (by omega) (by omega), u1 _ _ (by omega)]
  have e25 : V.1 621 25 = b := by rw [t3 _ _ (by omega) (by omega), u25]
  have c6 := sp_236b (Q := Q) (T := V) (by omega)
  rw [e27, e25] at c6
  obtain ⟨X, hX⟩ : ∃ X, X = ev_pI (ev_pI V 621 27 (T.1 621 27 + 1)) 621 25 (if b = 0 ∧ T.1 621 27 < 150 then 0 else 1) := ⟨_, rfl⟩
  rw [← hX] at c6
  have x1 : ∀ c g, ¬ (c = 621 ∧ (g = 25 ∨ g = 27)) → X.1 c g = V.1 c g := fun c g h => by
    rw [hX, sp_pI1, if_neg (by omega), sp_pI1, if_neg (by omega)]
  have x37 : X.1 621 37 = (r : Int) := by rw [x1 _ _ (by omega), t3 _ _ (by omega) (by omega), u1 _ _ (by omega), hr]
  have tail : (ev_bd (jm_235 Q 18 U) fun x23 s22 => ev_bd (jm_236 Q  s22) fun _ s24 => ev_bd (jm_232 Q  s24) fun x26 s25 => ev_b (s25.1 621 37) fun x27 => ev_ck (x26 + x27) fun x28 => ev_if ((0 : Int) ≤ x28 ∧ x28 < (ev_aln 627 : Int)) (ev_b (ev_pI s25 627 (Int.toNat x28) x23) fun s29 => ev_b (ev_pI s29 621 37 x23) fun s30 => ev_b (ev_pI s30 621 38 ((-1))) fun s31 => ev_b (ev_pI s31 621 39 ((-1))) fun s32 => some ((), s32))) = some ((), ev_pI (ev_pI (ev_pI (ev_pI X 627 (3840 + r) (m : Int)) 621 37 (m : Int)) 621 38 (-1)) 621 39 (-1)) := by
    rw [t1, sp_bd, c6, sp_bd, sp_232, sp_bd, x37, sp_b, sp_ck (by omega), sp_if (by rw [l3]; omega), show ((3840 : Int) + (r : Int)).toNat = 3840 + r from by omega, sp_b, sp_b, sp_b, sp_b]
  have run : jm_241 Q T = some ((), ev_pI (ev_pI (ev_pI (ev_pI X 627 (3840 + r) (m : Int)) 621 37 (m : Int)) 621 38 (-1)) 621 39 (-1)) := by
    have e0 : ev_pI T 621 25 0 = T := by
      have := pI_id (S := T) (k := 621) (f := 25)
      rw [h25] at this
      exact this
    unfold jm_241
    rw [sp_b, hd, sp_ck (by omega), show (d : Int) + 1 - 1 = (d : Int) from by omega, sp_if (by rw [o1]; omega), Int.toNat_natCast, hg, sp_b, sp_232, sp_bd, sp_ck (by omega), sp_if (by rw [l2]; omega), e1, sp_b, hr, sp_b, sp_jn]
    by_cases z1 : T.1 626 (3840 + g) = (r : Int)
    · have hb0 : b = 0 := by rw [hb, if_neg (fun z => z.2 z1)]
      rw [hb0, e0] at hU
      rw [if_pos z1]
      dsimp only
      rw [sp_232, sp_bd, sp_ck (by omega), sp_if (by rw [l1]; omega), e1, sp_b, sp_jn]
      by_cases z2 : T.1 625 (3840 + g) = 13
      · rw [if_neg (fun z => z z2), if_pos rfl, ← hU]
        exact tail
      · rw [if_pos z2, ← hU]
        exact tail
    · rw [if_neg z1]
      dsimp only
      rw [sp_232, sp_bd, sp_ck (by omega), sp_if (by rw [l1]; omega), e1, sp_b, sp_jn]
      by_cases z2 : T.1 625 (3840 + g) = 13
      · have hb0 : b = 1 := by rw [hb, if_pos ⟨z2, z1⟩]
        rw [hb0] at hU
        rw [if_neg (fun z => z z2), if_neg (by decide), sp_b, ← hU]
        exact tail
      · have hb0 : b = 0 := by rw [hb, if_neg (fun z => z2 z.1)]
        rw [hb0, e0] at hU
        rw [if_pos z2, ← hU]
        exact tail
  have f : ∀ c g, ¬ (c = 627 ∧ g = 3840 + r) → ¬ (c = 621 ∧ (g = 37 ∨ g = 38 ∨ g = 39)) → (ev_pI (ev_pI (ev_pI (ev_pI X 627 (3840 + r) (m : Int)) 621 37 (m : Int)) 621 38 (-1)) 621 39 (-1)).1 c g = X.1 c g := fun c g h1 h2 => by
    (repeat (first | rw [sp_pI1, if_neg (by omega)] | rw [sp_pL1] | rw [sp_pL2, if_neg (by omega)]))
  refine ⟨_, run, ⟨?_, ?_, ?_, rd_eq, ?_⟩, ⟨?_, ?_, ?_, ?_⟩, ⟨?_, ?_⟩, fun c g h1 h2 h3 h4 => ?_, fun c g h => ?_, ?_⟩
  · rw [f _ _ (by omega) (by omega), x1 _ _ (by omega), t2]
  · rw [rd_nf (by omega), rd_nf (by omega), rd_eq]
  · rw [rd_nf (by omega), rd_eq]
  · rw [rd_nk (by omega), rd_nk (by omega), rd_nk (by omega), rd_eq]
  · rw [f _ _ (by omega) (by omega), x1 _ _ (by omega), v1]
  · rw [f _ _ (by omega) (by omega), x1 _ _ (by omega), v2]
  · rw [f _ _ (by omega) (by omega), x1 _ _ (by omega), v3]
  · rw [f _ _ (by omega) (by omega), x1 _ _ (by omega), v6]
  · rw [f _ _ (by omega) (by omega), hX, rd_nf (by omega), rd_eq]
  · rw [f _ _ (by omega) (by omega), hX, rd_eq]
  · rw [f _ _ h4 (by omega), x1 _ _ (by omega), t3 _ _ h1 h2, u1 _ _ (by omega)]
  · show X.2.1 c g = _
    rw [hX]
    show V.2.1 c g = _
    rw [t4 c g h, u2]
  · show X.2.2 = _
    rw [hX]
    show V.2.2 = _
    rw [t5, u2]
end RROW
