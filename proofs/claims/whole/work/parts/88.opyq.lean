/-! SEARCH: the groups had, on both sides -/
section OPYQ
variable {Q n us vs us2 vs2 : Nat} {S S2 T T2 : ev_St} {a x y : Int}
theorem al_L : ev_aln 696 = 30000 ∧ ev_aln 699 = 30000 := by decide +kernel
def GL (S T : ev_St) (us vs : Nat) : Nat → Int → Int → Prop
  | 0, x, y => x = -1 ∧ y = -1
  | n + 1, x, y => ∃ u v : Nat, x = (u : Int) ∧ y = (v : Int) ∧ u + 4 ≤ us ∧ v < vs ∧ S.1 282 (u + 1) = T.1 696 v ∧ S.1 282 (u + 2) = T.1 697 v ∧ S.1 282 (u + 3) = T.1 698 v ∧ (0 ≤ T.1 697 v ∧ T.1 697 v ≤ 160) ∧ (T.1 697 v ≤ T.1 698 v ∧ T.1 698 v ≤ T.1 621 73 ∧ T.1 698 v ≤ 160) ∧ T.1 696 v ≤ T.1 636 ((T.1 621 79).toNat / 320) ∧ GL S T us vs n (S.1 282 u) (T.1 699 v)
theorem gl_walk (hu : S.1 281 7 = (us : Int)) (h2 : us ≤ 76072) (hv : vs ≤ 30000) : ∀ (n q q2 c : Nat) (x y : Int), GL S T us vs n x y → n < q → n < q2 → c + n < 19018 → ∃ y2 x2 : Int, jl_129_7 Q a q x (c : Int) S = some (x2, S) ∧ (∀ T2, (∀ c v, c = 696 ∨ c = 699 → v < vs → T2.1 c v = T.1 c v) → jl_294_5 Q a q2 y T2 = some (y2, T2)) ∧ ((x2 = -1 ∧ y2 = -1) ∨ ∃ u v : Nat, x2 = (u : Int) ∧ y2 = (v : Int) ∧ u + 4 ≤ us ∧ v < vs ∧ S.1 282 (u + 2) = T.1 697 v ∧ S.1 282 (u + 3) = T.1 698 v ∧ (0 ≤ T.1 697 v ∧ T.1 697 v ≤ 160) ∧ (T.1 697 v ≤ T.1 698 v ∧ T.1 698 v ≤ T.1 621 73 ∧ T.1 698 v ≤ 160)) := fun n => by
  obtain ⟨l82, _⟩ := al_Sc
  obtain ⟨l96, l99⟩ := al_L
  induction n with
  | zero =>
    intro q q2 c x y h n1 n2 n3
    obtain ⟨rfl, rfl⟩ := h
    obtain ⟨q, rfl⟩ : ∃ r, q = r + 1 := ⟨q - 1, by omega⟩
    obtain ⟨q2, rfl⟩ : ∃ r, q2 = r + 1 := ⟨q2 - 1, by omega⟩
    refine ⟨-1, -1, ?_, fun T2 hT => ?_, Or.inl ⟨rfl, rfl⟩⟩
    · show jb_129_7 Q _ _ _ _ S = _
      unfold jb_129_7
      rw [if_neg (by omega), (cs_is hu h2).1 (by decide), sp_bd, if_pos rfl]
    · show jb_294_5 Q _ _ _ T2 = _
      unfold jb_294_5
      rw [if_pos rfl]
  | succ n ih =>
    intro q q2 c x y h n1 n2 n3
    obtain ⟨u, v, rfl, rfl, h1, h3, h4, h5, h6, h7, h8, _, h9⟩ := h
    obtain ⟨q, rfl⟩ : ∃ r, q = r + 1 := ⟨q - 1, by omega⟩
    obtain ⟨q2, rfl⟩ : ∃ r, q2 = r + 1 := ⟨q2 - 1, by omega⟩
    by_cases e : T.1 696 v = a
    · refine ⟨v, u, ?_, fun T2 hT => ?_, Or.inr ⟨u, v, rfl, rfl, h1, h3, h5, h6, h7, h8⟩⟩
      · show jb_129_7 Q _ _ _ _ S = _
        unfold jb_129_7
        rw [if_neg (by omega), (cs_is hu h2).2 (by omega) (by omega), sp_bd, if_neg (by decide), sp_ck (by omega), sp_if (by rw [l82]; omega), sp_b, show Int.toNat ((u : Int) + 1) = u + 1 from by omega, h4, if_neg (fun z => z e)]
      · show jb_294_5 Q _ _ _ T2 = _
        unfold jb_294_5
        rw [if_neg (by omega), sp_if (by rw [l96]; omega), sp_b, Int.toNat_natCast, hT 696 v (Or.inl rfl) h3, if_pos e]
    · obtain ⟨y2, x2, i1, i2, i3⟩ := ih q q2 (c + 1) _ _ h9 (by omega) (by omega) (by omega)
      refine ⟨y2, x2, ?_, fun T2 hT => ?_, i3⟩
      · show jb_129_7 Q _ _ _ _ S = _
        unfold jb_129_7
        rw [if_neg (by omega), (cs_is hu h2).2 (by omega) (by omega), sp_bd, if_neg (by decide), sp_ck (by omega), sp_if (by rw [l82]; omega), sp_b, show Int.toNat ((u : Int) + 1) = u + 1 from by omega, h4, if_pos e, sp_if (by rw [l82]; omega), sp_b, Int.toNat_natCast, sp_ck (by omega), show (c : Int) + 1 = ((c + 1 : Nat) : Int) from by omega]
        exact i1
      · show jb_294_5 Q _ _ _ T2 = _
        unfold jb_294_5
        rw [if_neg (by omega), sp_if (by rw [l96]; omega), sp_b, Int.toNat_natCast, hT 696 v (Or.inl rfl) h3, if_neg e, sp_if (by rw [l99]; omega), sp_b, hT 699 v (Or.inr rfl) h3]
        exact i2 T2 hT
/-- no group beyond the pattern's number of them -/
theorem gl_no (hv : vs ≤ 30000) (hb : T.1 636 ((T.1 621 79).toNat / 320) < a) : ∀ (n q2 : Nat) (x y : Int), GL S T us vs n x y → n < q2 → jl_294_5 Q a q2 y T = some (-1, T) := fun n => by
  obtain ⟨l96, l99⟩ := al_L
  induction n with
  | zero =>
    intro q2 x y h h2
    obtain ⟨rfl, rfl⟩ := h
    obtain ⟨q2, rfl⟩ : ∃ r, q2 = r + 1 := ⟨q2 - 1, by omega⟩
    show jb_294_5 Q _ _ _ T = _
    unfold jb_294_5
    rw [if_pos rfl]
  | succ n ih =>
    intro q2 x y h h2
    obtain ⟨u, v, rfl, rfl, h1, h3, h4, h5, h6, h7, h8, hh, h9⟩ := h
    obtain ⟨q2, rfl⟩ : ∃ r, q2 = r + 1 := ⟨q2 - 1, by omega⟩
    have e : T.1 696 v ≠ a := fun z => Int.not_le.mpr hb (z ▸ hh)
    show jb_294_5 Q _ _ _ T = _
    unfold jb_294_5
    rw [if_neg (by omega), sp_if (by rw [l96]; omega), sp_b, Int.toNat_natCast, if_neg e, sp_if (by rw [l99]; omega), sp_b]
    exact ih q2 _ _ h9 (by omega)
/-- groups are told alike -/
theorem gl_grp (hbd : T.1 636 ((T.1 621 79).toNat / 320) = S.1 (S.2.2.1 281 0 - 1) 12) (hln : T.1 621 73 = S.1 (S.2.2.1 281 1 - 1) 1) (h : GL S T us vs n (S.1 281 5) (T.1 621 82)) (hu : S.1 281 7 = (us : Int)) (h2 : us ≤ 76072) (hv : vs ≤ 30000) (hn : n < 19018) (hQ : 20000 ≤ Q) : ∃ e, ENTR Q e T ∧ ∀ i, 1 ≤ i → i < 10 → GRP Q i (gF e T 697 i) (gF e T 698 i) S := by
  obtain ⟨l82, _⟩ := al_Sc
  have w := fun i : Nat => gl_walk (Q := Q) (a := (i : Int)) hu h2 hv n Q Q 0 _ _ h (by omega) (by omega) (by omega)
  have sp := fun i : Nat => Classical.choose_spec (w i)
  obtain ⟨e, he⟩ : ∃ e : Nat → Int, e = fun i => Classical.choose (w i) := ⟨_, rfl⟩
  have sp2 : ∀ i : Nat, ∃ x2 : Int, jl_129_7 Q (i : Int) Q (S.1 281 5) 0 S = some (x2, S) ∧ (∀ T2, (∀ c v, c = 696 ∨ c = 699 → v < vs → T2.1 c v = T.1 c v) → jl_294_5 Q (i : Int) Q (T.1 621 82) T2 = some (e i, T2)) ∧ ((x2 = -1 ∧ e i = -1) ∨ ∃ u v : Nat, x2 = (u : Int) ∧ e i = (v : Int) ∧ u + 4 ≤ us ∧ v < vs ∧ S.1 282 (u + 2) = T.1 697 v ∧ S.1 282 (u + 3) = T.1 698 v ∧ (0 ≤ T.1 697 v ∧ T.1 697 v ≤ 160) ∧ (T.1 697 v ≤ T.1 698 v ∧ T.1 698 v ≤ T.1 621 73 ∧ T.1 698 v ≤ 160)) := fun i => by
    rw [he]
    exact sp i
  refine ⟨e, ⟨fun i T2 i1 i2 hT => ?_, fun i i1 i2 => ?_⟩, fun i i1 i2 => ?_⟩
  · obtain ⟨x2, _, s2, _⟩ := sp2 i
    unfold jm_294
    rw [sp_b, hT 621 82 (by decide) (by decide)]
    exact s2 T2 (fun c v hc _ => hT c v (by omega) (by omega))
  · obtain ⟨x2, _, _, s3⟩ := sp2 i
    rcases s3 with y | ⟨u, v, _, y, _, z, _⟩
    · exact Or.inl y.2
    · exact Or.inr (by omega)
  · obtain ⟨x2, s1, s2, s3⟩ := sp2 i
    have c129 : jm_129 Q (i : Int) S = some (x2, S) := by
      unfold jm_129
      rw [sp_b]
      exact s1
    rcases s3 with ⟨y1, y2⟩ | ⟨u, v, y1, y2, y3, y4, y5, y6, y7, y8⟩
    · refine Or.inl ⟨if_pos y2, ?_⟩
      unfold jm_118
      rw [if_pos (by omega), c129, sp_bd, if_neg (by omega)]
    · have g : ∀ c, gF e T c i = T.1 c v := fun c => by
        unfold gF
        rw [if_neg (by omega), y2, Int.toNat_natCast]
      rw [g, g]
      refine Or.inr ⟨y7, by omega, ?_, Or.inr ?_, y8.1, by rw [← hln]; exact y8.2.1⟩
      · unfold jm_118
        rw [if_pos (by omega), c129, sp_bd, y1, if_pos (by omega), sp_ck (by omega), sp_if (by rw [l82]; omega), sp_b, show Int.toNat ((u : Int) + 2) = u + 2 from by omega, y5, sp_ck (by omega), sp_ck (by omega), sp_if (by rw [l82]; omega), sp_b, show Int.toNat ((u : Int) + 3) = u + 3 from by omega, y6, sp_ck (by omega)]
      · rw [← hbd]
        apply Int.not_lt.mp
        intro hb
        have y := gl_no (Q := Q) hv hb n Q _ _ h (by omega)
        rw [s2 T (fun _ _ _ _ => rfl)] at y
        have y := congrArg Prod.fst (Option.some.inj y)
        dsimp only at y
        omega
/-- carried over: what lies below the marks stays -/
theorem GL_c (h1 : ∀ i, i < us → S2.1 282 i = S.1 282 i) (h2 : ∀ c v, 696 ≤ c → c ≤ 699 → v < vs → T2.1 c v = T.1 c v) (h3 : T2.1 621 73 = T.1 621 73) (h4 : T2.1 636 ((T2.1 621 79).toNat / 320) = T.1 636 ((T.1 621 79).toNat / 320)) (hu : us ≤ us2) (hv : vs ≤ vs2) : ∀ (n : Nat) (x y : Int), GL S T us vs n x y → GL S2 T2 us2 vs2 n x y := fun n => by
  induction n with
  | zero => exact fun x y h => h
  | succ n ih =>
    intro x y h
    obtain ⟨u, v, e1, e2, a1, a2, a3, a4, a5, a6, a7, a9, a8⟩ := h
    refine ⟨u, v, e1, e2, by omega, by omega, ?_, ?_, ?_, ?_, ?_, ?_, ?_⟩
    · rw [h1 _ (by omega), h2 _ _ (by omega) (by omega) a2]
      exact a3
    · rw [h1 _ (by omega), h2 _ _ (by omega) (by omega) a2]
      exact a4
    · rw [h1 _ (by omega), h2 _ _ (by omega) (by omega) a2]
      exact a5
    · rw [h2 _ _ (by omega) (by omega) a2]
      exact a6
    · rw [h2 697 _ (by omega) (by omega) a2, h2 698 _ (by omega) (by omega) a2, h3]
      exact a7
    · rw [h2 696 _ (by omega) (by omega) a2, h4]
      exact a9
    · rw [h1 _ (by omega), h2 _ _ (by omega) (by omega) a2]
      exact ih _ _ a8
/-- one group more: the class's cell u, the reference's place v -/
theorem GL_push {x y g s p : Int} (h : GL S T us vs n x y) (hu : ∀ i, i < us → S2.1 282 i = S.1 282 i) (hv : ∀ c v, 696 ≤ c → c ≤ 699 → v < vs → T2.1 c v = T.1 c v) (h73 : T2.1 621 73 = T.1 621 73) (h79 : T2.1 636 ((T2.1 621 79).toNat / 320) = T.1 636 ((T.1 621 79).toNat / 320)) (hgb : g ≤ T.1 636 ((T.1 621 79).toNat / 320)) (s0 : S2.1 282 us = x) (s1 : S2.1 282 (us + 1) = g) (s2 : S2.1 282 (us + 2) = s) (s3 : S2.1 282 (us + 3) = p) (t0 : T2.1 699 vs = y) (t1 : T2.1 696 vs = g) (t2 : T2.1 697 vs = s) (t3 : T2.1 698 vs = p) (hs : 0 ≤ s ∧ s ≤ 160) (hp : s ≤ p ∧ p ≤ T.1 621 73 ∧ p ≤ 160) : GL S2 T2 (us + 4) (vs + 1) (n + 1) (us : Int) (vs : Int) := by
  refine ⟨us, vs, rfl, rfl, Nat.le_refl _, Nat.lt_succ_self _, by rw [s1, t1], by rw [s2, t2], by rw [s3, t3], by rw [t2]; exact hs, by rw [t2, t3, h73]; exact hp, by rw [t1, h79]; exact hgb, ?_⟩
  rw [s0, t0]
  exact GL_c hu hv h73 h79 (Nat.le_add_right _ _) (Nat.le_succ _) n x y h
end OPYQ
