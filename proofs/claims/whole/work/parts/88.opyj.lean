/-! SEARCH: the places one after another, given what one place comes to -/
section OPYJ
variable {Q p k w len n m i j : Nat} {S S2 T T0 T2 T3 U V : ev_St} {B R : ev_St → ev_St → Prop} {x y : Int} {e : Nat → Int}
theorem al_Gt : ev_aln 679 = 10 ∧ ev_aln 680 = 10 ∧ ev_aln 697 = 30000 ∧ ev_aln 698 = 30000 := by decide +kernel
def gF (e : Nat → Int) (T : ev_St) (c j : Nat) : Int := if e j = -1 then -1 else T.1 c (e j).toNat
/-- what the reference's list of groups is asked -/
def ENTR (Q : Nat) (e : Nat → Int) (T : ev_St) : Prop := (∀ (i : Nat) (T2 : ev_St), 1 ≤ i → i < 10 → (∀ c g, c ≠ 679 → c ≠ 680 → T2.1 c g = T.1 c g) → jm_294 Q (i : Int) T2 = some (e i, T2)) ∧ ∀ i, 1 ≤ i → i < 10 → e i = -1 ∨ (0 ≤ e i ∧ e i < 30000)
theorem run307 (he : ENTR Q e T0) : ∀ (r q i : Nat) (U : ev_St), i + r = 10 → r < q → 1 ≤ i → (∀ c g, c ≠ 679 → c ≠ 680 → U.1 c g = T0.1 c g) → (∀ j, 1 ≤ j → j < i → U.1 679 j = gF e T0 697 j ∧ U.1 680 j = gF e T0 698 j) → ∃ V, jl_307_19 Q q (i : Int) U = some ((), V) ∧ (∀ c g, c ≠ 679 → c ≠ 680 → V.1 c g = T0.1 c g) ∧ (∀ j, 1 ≤ j → j < 10 → V.1 679 j = gF e T0 697 j ∧ V.1 680 j = gF e T0 698 j) ∧ V.1 679 0 = U.1 679 0 ∧ V.1 680 0 = U.1 680 0 ∧ V.2 = U.2 := fun r => by
  obtain ⟨l79, l80, l97, l98⟩ := al_Gt
  induction r with
  | zero =>
    intro q i U h1 h2 h3 h4 h5
    obtain ⟨q, rfl⟩ : ∃ r, q = r + 1 := ⟨q - 1, by omega⟩
    refine ⟨U, ?_, h4, fun j j1 j2 => h5 j j1 (by omega), rfl, rfl, rfl⟩
    show jb_307_19 Q _ _ U = _
    unfold jb_307_19
    rw [if_pos (by omega)]
  | succ r ih =>
    intro q i U h1 h2 h3 h4 h5
    obtain ⟨q, rfl⟩ : ∃ r, q = r + 1 := ⟨q - 1, by omega⟩
    obtain ⟨U2, hU2⟩ : ∃ U2, U2 = ev_pI (ev_pI U 679 i (gF e T0 697 i)) 680 i (gF e T0 698 i) := ⟨_, rfl⟩
    have st : jl_307_19 Q (q + 1) (i : Int) U = jl_307_19 Q q ((i + 1 : Nat) : Int) U2 := by
      show jb_307_19 Q _ _ U = _
      unfold jb_307_19
      rw [if_neg (by omega), he.1 i U h3 (by omega) h4, sp_bd, sp_jn]
      rcases he.2 i h3 (by omega) with z | z
      · have f1 : gF e T0 697 i = -1 := if_pos z
        have f2 : gF e T0 698 i = -1 := if_pos z
        rw [if_neg (fun y => y z)]
        try dsimp only
        rw [sp_if (by rw [l79]; omega), sp_b, sp_jn, if_neg (fun y => y z)]
        try dsimp only
        rw [sp_if (by rw [l80]; omega), sp_b, sp_ck (by omega), Int.toNat_natCast, show (i : Int) + 1 = ((i + 1 : Nat) : Int) from by omega, hU2, f1, f2]
      · have f1 : gF e T0 697 i = U.1 697 (e i).toNat := by
          unfold gF
          rw [if_neg (by omega), h4 _ _ (by decide) (by decide)]
        have f2 : gF e T0 698 i = U.1 698 (e i).toNat := by
          unfold gF
          rw [if_neg (by omega), h4 _ _ (by decide) (by decide)]
        rw [if_pos (by omega), sp_if (by rw [l97]; omega), sp_b]
        try dsimp only
        rw [sp_if (by rw [l79]; omega), sp_b, sp_jn, if_pos (by omega), sp_if (by rw [l98]; omega), sp_b]
        try dsimp only
        rw [sp_if (by rw [l80]; omega), sp_b, sp_ck (by omega), show Int.toNat (i : Int) = i from Int.toNat_natCast _, show (i : Int) + 1 = ((i + 1 : Nat) : Int) from by omega, hU2, f1, f2, rd_nk (by decide)]
    have u2 : ∀ c g, c ≠ 679 → c ≠ 680 → U2.1 c g = U.1 c g := fun c g y1 y2 => by rw [hU2, rd_nk y2, rd_nk y1]
    obtain ⟨V, v1, v2, v3, v4, v5, v6⟩ := ih q (i + 1) U2 (by omega) (by omega) (by omega) (fun c g y1 y2 => by rw [u2 c g y1 y2, h4 c g y1 y2]) (fun j j1 j2 => by
      by_cases z : j = i
      · subst z
        refine ⟨?_, by rw [hU2, rd_eq]⟩
        rw [hU2, rd_nk (by decide), rd_eq]
      · have q := h5 j j1 (by omega)
        rw [hU2, rd_nk (by decide), rd_nf (by omega), rd_nf (by omega), rd_nk (by decide)]
        exact q)
    refine ⟨V, st.trans v1, v2, v3, ?_, ?_, by rw [v6, hU2]; rfl⟩
    · rw [v4, hU2, rd_nk (by decide), rd_nf (by omega)]
    · rw [v5, hU2, rd_nf (by omega), rd_nk (by decide)]
theorem sp_307 (hQ : 100 ≤ Q) (he : ENTR Q e T) : ∃ V, jm_307 Q x T = some ((), V) ∧ (∀ c g, c ≠ 679 → c ≠ 680 → V.1 c g = T.1 c g) ∧ (∀ j, 1 ≤ j → j < 10 → V.1 679 j = gF e T 697 j ∧ V.1 680 j = gF e T 698 j) ∧ V.1 679 0 = x ∧ V.1 680 0 = T.1 621 81 ∧ V.2 = T.2 := by
  obtain ⟨l79, l80, l97, l98⟩ := al_Gt
  obtain ⟨U, hU⟩ : ∃ U, U = ev_pI (ev_pI T 679 0 x) 680 0 (T.1 621 81) := ⟨_, rfl⟩
  obtain ⟨V, v1, v2, v3, v4, v5, v6⟩ := run307 he 9 Q 1 U (by omega) (by omega) (by omega) (fun c g y1 y2 => by rw [hU, rd_nk y2, rd_nk y1]) (fun j j1 j2 => absurd j2 (by omega))
  refine ⟨V, ?_, v2, v3, ?_, ?_, by rw [v6, hU]; rfl⟩
  · unfold jm_307
    rw [sp_if (by rw [l79]; omega), sp_b, sp_b, sp_if (by rw [l80]; omega), sp_b, show Int.toNat 0 = 0 from rfl, rd_nk (by decide), ← hU]
    exact v1
  · rw [v4, hU, rd_nk (by decide), rd_eq]
  · rw [v5, hU, rd_eq]
/-- a group as both tell it -/
def GRP (Q : Nat) (i : Nat) (u v : Int) (S : ev_St) : Prop := (u = -1 ∧ jm_118 Q (i : Int) S = some (-3, S)) ∨ ((0 ≤ u ∧ u ≤ 160) ∧ (0 ≤ v ∧ v ≤ 160) ∧ jm_118 Q (i : Int) S = some (1000 * u + v, S) ∧ (i = 0 ∨ (i : Int) ≤ S.1 (S.2.2.1 281 0 - 1) 12) ∧ u ≤ v ∧ v ≤ S.1 (S.2.2.1 281 1 - 1) 1)
/-- the class has found what the reference has, before the reference keeps it -/
def FND (Q : Nat) (x : Int) (S T : ev_St) : Prop := S.1 281 11 = x ∧ S.1 281 12 = T.1 621 81 ∧ (x ≤ S.1 281 12 ∧ S.1 281 12 ≤ 160) ∧ ∃ e, ENTR Q e T ∧ (∀ i, 1 ≤ i → i < 10 → GRP Q i (gF e T 697 i) (gF e T 698 i) S) ∧ S.1 281 12 ≤ S.1 (S.2.2.1 281 1 - 1) 1
def GOT (Q : Nat) (x : Int) (S T : ev_St) : Prop := (0 ≤ x ∧ x ≤ 160) ∧ S.1 281 12 = T.1 680 0 ∧ (x ≤ S.1 281 12 ∧ S.1 281 12 ≤ 160 ∧ S.1 281 11 = x) ∧ T.1 679 0 = x ∧ ∀ i, i < 10 → GRP Q i (T.1 679 i) (T.1 680 i) S
theorem got_tell {a : Int} (h : GOT Q x S T) (ha : 0 ≤ a ∧ a < 10) : ∃ v, jm_118 Q a S = some (v, S) ∧ jm_327 Q 1 a T = some (v, T) := by
  obtain ⟨l79, l80, _⟩ := al_Gt
  obtain ⟨i, hi⟩ : ∃ i : Nat, a = (i : Int) := ⟨a.toNat, by omega⟩
  subst hi
  unfold jm_327
  rw [if_pos rfl, sp_if (by rw [l79]; omega), sp_b, Int.toNat_natCast]
  rcases h.2.2.2.2 i (by omega) with ⟨y1, y2⟩ | ⟨y1, y2, y3, _⟩
  · exact ⟨_, y2, by rw [y1, if_neg (fun z => z rfl)]⟩
  · refine ⟨_, y3, ?_⟩
    rw [if_pos (by omega), sp_if (by rw [l79]; omega), sp_b, sp_ck (by omega), sp_if (by rw [l80]; omega), sp_b, sp_ck (by omega)]
theorem fnd_keep (hQ : 100 ≤ Q) (h : FND Q x S T) (hx : 0 ≤ x ∧ x ≤ 160) : ∃ V, jm_307 Q x T = some ((), V) ∧ GOT Q x S V ∧ (∀ c g, c ≠ 679 → c ≠ 680 → V.1 c g = T.1 c g) ∧ V.2 = T.2 := by
  obtain ⟨h1, h2, h3, e, h4, h5, h6⟩ := h
  obtain ⟨V, v1, v2, v3, v4, v5, v6⟩ := sp_307 (x := x) hQ h4
  refine ⟨V, v1, ⟨hx, by rw [v5]; exact h2, ⟨h3.1, h3.2, h1⟩, v4, fun i hi => ?_⟩, v2, v6⟩
  by_cases z : i = 0
  · subst z
    refine Or.inr ⟨by rw [v4]; exact hx, by rw [v5, ← h2]; omega, ?_, Or.inl rfl, by rw [v4, v5, ← h2]; exact h3.1, by rw [v5, ← h2]; exact h6⟩
    unfold jm_118
    rw [if_neg (fun z => z rfl), sp_b, h1, sp_ck (by omega), sp_b, sp_ck (by omega), v4, v5, ← h2]
  · obtain ⟨w1, w2⟩ := v3 i (by omega) hi
    rw [w1, w2]
    exact h5 i (by omega) hi
/-- one place: what class and reference come to -/
def SIM (Q p k w len : Nat) (B R : ev_St → ev_St → Prop) : Prop := (∀ S T, R S T → B S T ∧ S.1 281 14 = T.1 621 75 ∧ S.2.2.1 281 1 = w + 1) ∧ (∀ S T, B S T → S.1 w 1 = (len : Int) ∧ T.1 621 73 = (len : Int)) ∧ (∀ S T T2, B S T → (∀ c g, c ≠ 679 → c ≠ 680 → T2.1 c g = T.1 c g) → T2.2 = T.2 → B S T2) ∧ (∀ S T, B S T → R (ev_pI (ev_pI (ev_pR (ev_pR S 281 0 (k + 1)) 281 1 (w + 1)) 281 14 0) 281 10 0) (ev_pI (ev_pI T 621 75 0) 621 76 0)) ∧ ∀ (S T : ev_St) (x : Int), R S T → 0 ≤ x → x ≤ (len : Int) → ∃ rc rr S2 T2, jm_122 Q x S = some (rc, S2) ∧ jm_306 Q (p : Int) x T = some (rr, T2) ∧ ((rr = -2 ∧ S2.1 281 10 ≠ 0 ∧ B S2 T2) ∨ (S2.1 281 10 = 0 ∧ R S2 T2 ∧ ((rc = 1 ∧ rr = 1 ∧ FND Q x S2 T2) ∨ (rc = 3 ∧ rr = 2) ∨ (rc = 4 ∧ rr = 3 ∧ S2.1 281 13 = T2.1 621 77) ∨ (rc = 2 ∧ rr = 0))))
def TOLD (Q : Nat) (B : ev_St → ev_St → Prop) (lo vc vr : Int) (S2 T2 : ev_St) : Prop := B S2 T2 ∧ ((vr = -2 ∧ vc = -2) ∨ (S2.1 281 14 = T2.1 621 75 ∧ ((vr = 0 ∧ vc = -1) ∨ (vr = 1 ∧ ∃ y, vc = 1000 * y + S2.1 281 12 ∧ GOT Q y S2 T2 ∧ lo ≤ y))))
theorem TOLD_w {lo lo2 vc vr : Int} (h : TOLD Q B lo vc vr S2 T2) (hl : lo2 ≤ lo) : TOLD Q B lo2 vc vr S2 T2 := by
  refine ⟨h.1, ?_⟩
  rcases h.2 with y | ⟨y0, y | ⟨y1, y, y2, y3, y4⟩⟩
  · exact Or.inl y
  · exact Or.inr ⟨y0, Or.inl y⟩
  · exact Or.inr ⟨y0, Or.inr ⟨y1, y, y2, y3, Int.le_trans hl y4⟩⟩
theorem run_ahead (h : SIM Q p k w len B R) (hl : len ≤ 160) (hQ : 100 ≤ Q) : ∀ (r q q2 : Nat) (x i : Int) (S T : ev_St), R S T → 0 ≤ i → i ≤ x → (len : Int) + 1 - x ≤ (r : Int) → r < q → r < q2 → ∃ vc vr S2 T2, jl_115_12 Q q x i S = some (vc, S2) ∧ jl_308_13 Q (p : Int) 0 q2 x T = some (vr, T2) ∧ TOLD Q B x vc vr S2 T2 := fun r => by
  obtain ⟨h1, h2, h3, h4, h5⟩ := h
  -- behind the end
  have fin : ∀ (q q2 : Nat) (x i : Int) (S T : ev_St), R S T → 0 ≤ x → (len : Int) < x → ∃ vc vr S2 T2, jl_115_12 Q (q + 1) x i S = some (vc, S2) ∧ jl_308_13 Q (p : Int) 0 (q2 + 1) x T = some (vr, T2) ∧ TOLD Q B x vc vr S2 T2 := fun q q2 x i S T a1 a2 a3 => by
    obtain ⟨b1, b2, b3⟩ := h1 S T a1
    obtain ⟨c1, c2⟩ := h2 S T b1
    refine ⟨-1, 0, S, T, ?_, ?_, b1, Or.inr ⟨b2, Or.inl ⟨rfl, rfl⟩⟩⟩
    · show jb_115_12 Q _ _ _ S = _
      unfold jb_115_12
      by_cases z : 160 < i
      · rw [if_pos z]
      · rw [if_neg z, sp_b, b3, sp_if (by omega), sp_b, show w + 1 - 1 = w from rfl, c1, if_pos a3]
    · show jb_308_13 Q _ _ _ _ T = _
      unfold jb_308_13
      rw [sp_b, sp_222, sp_bd, c2, show sp_in x 0 (len : Int) = 0 from by unfold sp_in; rw [if_neg (by omega), if_pos a3], if_pos rfl]
  induction r with
  | zero =>
    intro q q2 x i S T a1 a2 a3 a4 a5 a6
    obtain ⟨q, rfl⟩ : ∃ r, q = r + 1 := ⟨q - 1, by omega⟩
    obtain ⟨q2, rfl⟩ : ∃ r, q2 = r + 1 := ⟨q2 - 1, by omega⟩
    exact fin q q2 x i S T a1 (by omega) (by omega)
  | succ r ih =>
    intro q q2 x i S T a1 a2 a3 a4 a5 a6
    obtain ⟨q, rfl⟩ : ∃ r, q = r + 1 := ⟨q - 1, by omega⟩
    obtain ⟨q2, rfl⟩ : ∃ r, q2 = r + 1 := ⟨q2 - 1, by omega⟩
    by_cases ex : (len : Int) < x
    · exact fin q q2 x i S T a1 (by omega) ex
    obtain ⟨b1, b2, b3⟩ := h1 S T a1
    obtain ⟨c1, c2⟩ := h2 S T b1
    obtain ⟨rc, rr, S2, T2, d1, d2, d3⟩ := h5 S T x a1 (by omega) (by omega)
    have hc : ∀ (v : Int) (S3 : ev_St), (if S2.1 281 10 = 0 then (if rc ≠ 1 then (if rc ≠ 3 then jl_115_12 Q q (if rc = 4 ∧ x < S2.1 281 13 then S2.1 281 13 else x + 1) (i + 1) S2 else some (-1, S2)) else some (1000 * S2.1 281 11 + S2.1 281 12, S2)) else some (-2, S2)) = some (v, S3) → (rc = 1 → S2.1 281 10 = 0 → (0 ≤ S2.1 281 11 ∧ S2.1 281 11 ≤ 160) ∧ 0 ≤ S2.1 281 12 ∧ S2.1 281 12 ≤ 160) → jl_115_12 Q (q + 1) x i S = some (v, S3) := fun v S3 g1 g2 => by
      rw [← g1]
      show jb_115_12 Q _ _ _ S = _
      unfold jb_115_12
      rw [if_neg (by omega), sp_b, b3, sp_if (by omega), sp_b, show w + 1 - 1 = w from rfl, c1, if_neg ex, d1, sp_bd, sp_b]
      by_cases z1 : S2.1 281 10 = 0
      · rw [if_pos z1, if_pos z1]
        by_cases z2 : rc = 1
        · rw [if_neg (fun y => y z2), if_neg (fun y => y z2)]
          have := g2 z2 z1
          rw [sp_b, sp_ck (by omega), sp_b, sp_ck (by omega)]
        · rw [if_pos z2, if_pos z2]
          by_cases z3 : rc = 3
          · rw [if_neg (fun y => y z3), if_neg (fun y => y z3)]
          · rw [if_pos z3, if_pos z3, sp_jn, sp_jn]
            by_cases z4 : rc = 4
            · rw [if_neg (fun y => y z4), sp_b]
              by_cases z5 : x < S2.1 281 13
              · rw [if_neg (by omega), sp_b, if_pos ⟨z4, z5⟩]
                try dsimp only
                rw [sp_ck (by omega)]
              · rw [if_pos (by omega), if_neg (fun y => z5 y.2)]
                try dsimp only
                rw [sp_ck (by omega)]
                try dsimp only
                rw [sp_ck (by omega)]
            · rw [if_pos z4, if_neg (fun y => z4 y.1)]
              try dsimp only
              rw [sp_ck (by omega)]
              try dsimp only
              rw [sp_ck (by omega)]
      · rw [if_neg z1, if_neg z1]
    have hr : ∀ (v : Int) (T3 : ev_St), (if rr ≠ 1 then (if rr = -2 then some (-2, T2) else if rr = 2 then some (0, T2) else jl_308_13 Q (p : Int) 0 q2 (if rr = 3 ∧ x < T2.1 621 77 then T2.1 621 77 else x + 1) T2) else (ev_bd (jm_307 Q x T2) fun _ s42 => some (1, s42))) = some (v, T3) → jl_308_13 Q (p : Int) 0 (q2 + 1) x T = some (v, T3) := fun v T3 g => by
      rw [← g]
      show jb_308_13 Q _ _ _ _ T = _
      unfold jb_308_13
      rw [sp_b, sp_222, sp_bd, c2, show sp_in x 0 (len : Int) = 1 from by unfold sp_in; rw [if_neg (by omega), if_neg (by omega)], if_neg (by decide), d2, sp_bd]
      by_cases z1 : rr = 1
      · rw [if_neg (fun y => y z1), if_neg (fun y => y z1)]
      · rw [if_pos z1, if_pos z1, sp_jn]
        by_cases z2 : rr = -2
        · rw [if_pos z2, if_pos z2]
          try dsimp only
          rw [if_pos (by omega)]
        · rw [if_neg z2, if_neg z2]
          by_cases z3 : rr = 2
          · rw [if_neg (fun y => y z3), if_pos z3]
            try dsimp only
            rw [if_neg (fun y => y z3)]
          · rw [if_pos z3, if_neg z3, sp_jn, if_pos rfl, sp_jn]
            by_cases z4 : rr = 3
            · rw [if_neg (fun y => y z4), sp_b]
              by_cases z5 : x < T2.1 621 77
              · rw [if_neg (by omega), sp_b, if_pos ⟨z4, z5⟩]
              · rw [if_pos (by omega), if_neg (fun y => z5 y.2)]
                try dsimp only
                rw [sp_ck (by omega)]
            · rw [if_pos z4, if_neg (fun y => z4 y.1)]
              try dsimp only
              rw [sp_ck (by omega)]
    rcases d3 with ⟨e1, e2, e3⟩ | ⟨e1, e2, e3⟩
    · exact ⟨-2, -2, S2, T2, hc _ _ (by rw [if_neg e2]) (fun _ y => absurd y e2), hr _ _ (by rw [if_pos (by omega), if_pos e1]), e3, Or.inl ⟨rfl, rfl⟩⟩
    · obtain ⟨f1, f2, f3⟩ := h1 S2 T2 e2
      rcases e3 with ⟨g1, g2, g3⟩ | ⟨g1, g2⟩ | ⟨g1, g2, g3⟩ | ⟨g1, g2⟩
      · obtain ⟨V, v1, v2, v3, v4⟩ := fnd_keep hQ g3 ⟨by omega, by omega⟩
        refine ⟨_, 1, S2, V, hc _ _ (by rw [if_pos e1, if_neg (fun y => y g1)]) (fun _ _ => ⟨by rw [g3.1]; omega, by have := g3.2.2.1; omega⟩), hr _ _ (by rw [if_neg (fun y => y g2), v1, sp_bd]), h3 S2 T2 V f1 v3 v4, Or.inr ⟨by rw [v3 _ _ (by decide) (by decide)]; exact f2, Or.inr ⟨rfl, x, by rw [g3.1], v2, by omega⟩⟩⟩
      · exact ⟨-1, 0, S2, T2, hc _ _ (by rw [if_pos e1, if_pos (by omega), if_neg (fun y => y g1)]) (fun y => by omega), hr _ _ (by rw [if_pos (by omega), if_neg (by omega), if_pos g2]), f1, Or.inr ⟨f2, Or.inl ⟨rfl, rfl⟩⟩⟩
      · obtain ⟨x2, hx2⟩ : ∃ x2, x2 = if x < T2.1 621 77 then T2.1 621 77 else x + 1 := ⟨_, rfl⟩
        have xx : x + 1 ≤ x2 := by
          rw [hx2]
          by_cases z : x < T2.1 621 77
          · rw [if_pos z]
            omega
          · rw [if_neg z]
            omega
        obtain ⟨vc, vr, S3, T3, i1, i2, i3⟩ := ih q q2 x2 (i + 1) S2 T2 e2 (by omega) (by omega) (by omega) (by omega) (by omega)
        refine ⟨vc, vr, S3, T3, hc _ _ ?_ (fun y => by omega), hr _ _ ?_, TOLD_w i3 (by omega)⟩
        · rw [if_pos e1, if_pos (by omega), if_pos (by omega), g3]
          by_cases z : x < T2.1 621 77
          · rw [if_pos z] at hx2
            rw [if_pos ⟨g1, z⟩, ← hx2]
            exact i1
          · rw [if_neg z] at hx2
            rw [if_neg (fun y => z y.2), ← hx2]
            exact i1
        · rw [if_pos (by omega), if_neg (by omega), if_neg (by omega)]
          by_cases z : x < T2.1 621 77
          · rw [if_pos z] at hx2
            rw [if_pos ⟨g2, z⟩, ← hx2]
            exact i2
          · rw [if_neg z] at hx2
            rw [if_neg (fun y => z y.2), ← hx2]
            exact i2
      · obtain ⟨vc, vr, S3, T3, i1, i2, i3⟩ := ih q q2 (x + 1) (i + 1) S2 T2 e2 (by omega) (by omega) (by omega) (by omega) (by omega)
        refine ⟨vc, vr, S3, T3, hc _ _ ?_ (fun y => by omega), hr _ _ ?_, TOLD_w i3 (by omega)⟩
        · rw [if_pos e1, if_pos (by omega), if_pos (by omega), if_neg (fun y => by have := y.1; omega)]
          exact i1
        · rw [if_pos (by omega), if_neg (by omega), if_neg (by omega), if_neg (fun y => by have := y.1; omega)]
          exact i2
theorem sp_ahead (h : SIM Q p k w len B R) (hl : len ≤ 160) (hQ : 400 ≤ Q) (hB : B S T) (hx : 0 ≤ x) : ∃ vc vr S2 T2, jm_115 Q (k + 1) (w + 1) x S = some (vc, S2) ∧ jm_308 Q (p : Int) x 0 T = some (vr, T2) ∧ TOLD Q B x vc vr S2 T2 := by
  obtain ⟨vc, vr, S2, T2, g1, g2, g3⟩ := run_ahead h hl (by omega) 161 Q Q x 0 _ _ (h.2.2.2.1 S T hB) (Int.le_refl 0) hx (by omega) (by omega) (by omega)
  exact ⟨vc, vr, S2, T2, g1, g2, g3⟩
theorem run_back (h : SIM Q p k w len B R) (hl : len ≤ 160) (hQ : 100 ≤ Q) : ∀ (r q q2 : Nat) (x : Int) (S T : ev_St), R S T → x + 1 ≤ (r : Int) → x ≤ (len : Int) → r < q → r < q2 → -1 ≤ x → ∃ vc vr S2 T2, jl_116_9 Q q x S = some (vc, S2) ∧ jl_308_13 Q (p : Int) 1 q2 x T = some (vr, T2) ∧ TOLD Q B 0 vc vr S2 T2 := fun r => by
  obtain ⟨h1, h2, h3, h4, h5⟩ := h
  have fin : ∀ (q q2 : Nat) (x : Int) (S T : ev_St), R S T → x < 0 → ∃ vc vr S2 T2, jl_116_9 Q (q + 1) x S = some (vc, S2) ∧ jl_308_13 Q (p : Int) 1 (q2 + 1) x T = some (vr, T2) ∧ TOLD Q B 0 vc vr S2 T2 := fun q q2 x S T a1 a2 => by
    obtain ⟨b1, b2, b3⟩ := h1 S T a1
    obtain ⟨c1, c2⟩ := h2 S T b1
    refine ⟨-1, 0, S, T, ?_, ?_, b1, Or.inr ⟨b2, Or.inl ⟨rfl, rfl⟩⟩⟩
    · show jb_116_9 Q _ _ S = _
      unfold jb_116_9
      rw [if_pos a2]
    · show jb_308_13 Q _ _ _ _ T = _
      unfold jb_308_13
      rw [sp_b, sp_222, sp_bd, show sp_in x 0 (T.1 621 73) = 0 from by unfold sp_in; rw [if_pos a2], if_pos rfl]
  induction r with
  | zero =>
    intro q q2 x S T a1 a2 a3 a4 a5 a6
    obtain ⟨q, rfl⟩ : ∃ r, q = r + 1 := ⟨q - 1, by omega⟩
    obtain ⟨q2, rfl⟩ : ∃ r, q2 = r + 1 := ⟨q2 - 1, by omega⟩
    exact fin q q2 x S T a1 (by omega)
  | succ r ih =>
    intro q q2 x S T a1 a2 a3 a4 a5 a6
    obtain ⟨q, rfl⟩ : ∃ r, q = r + 1 := ⟨q - 1, by omega⟩
    obtain ⟨q2, rfl⟩ : ∃ r, q2 = r + 1 := ⟨q2 - 1, by omega⟩
    by_cases ex : x < 0
    · exact fin q q2 x S T a1 ex
    obtain ⟨b1, b2, b3⟩ := h1 S T a1
    obtain ⟨c1, c2⟩ := h2 S T b1
    obtain ⟨rc, rr, S2, T2, d1, d2, d3⟩ := h5 S T x a1 (by omega) (by omega)
    have hc : ∀ (v : Int) (S3 : ev_St), (if S2.1 281 10 = 0 then (if rc ≠ 1 then (if rc ≠ 3 then jl_116_9 Q q (x - 1) S2 else some (-1, S2)) else some (1000 * S2.1 281 11 + S2.1 281 12, S2)) else some (-2, S2)) = some (v, S3) → (rc = 1 → S2.1 281 10 = 0 → (0 ≤ S2.1 281 11 ∧ S2.1 281 11 ≤ 160) ∧ 0 ≤ S2.1 281 12 ∧ S2.1 281 12 ≤ 160) → jl_116_9 Q (q + 1) x S = some (v, S3) := fun v S3 g1 g2 => by
      rw [← g1]
      show jb_116_9 Q _ _ S = _
      unfold jb_116_9
      rw [if_neg ex, d1, sp_bd, sp_b]
      by_cases z1 : S2.1 281 10 = 0
      · rw [if_pos z1, if_pos z1]
        by_cases z2 : rc = 1
        · rw [if_neg (fun y => y z2), if_neg (fun y => y z2)]
          have := g2 z2 z1
          rw [sp_b, sp_ck (by omega), sp_b, sp_ck (by omega)]
        · rw [if_pos z2, if_pos z2]
          by_cases z3 : rc = 3
          · rw [if_neg (fun y => y z3), if_neg (fun y => y z3)]
          · rw [if_pos z3, if_pos z3, sp_ck (by omega), show x + -1 = x - 1 from by omega]
      · rw [if_neg z1, if_neg z1]
    have hr : ∀ (v : Int) (T3 : ev_St), (if rr ≠ 1 then (if rr = -2 then some (-2, T2) else if rr = 2 then some (0, T2) else jl_308_13 Q (p : Int) 1 q2 (x - 1) T2) else (ev_bd (jm_307 Q x T2) fun _ s42 => some (1, s42))) = some (v, T3) → jl_308_13 Q (p : Int) 1 (q2 + 1) x T = some (v, T3) := fun v T3 g => by
      rw [← g]
      show jb_308_13 Q _ _ _ _ T = _
      unfold jb_308_13
      rw [sp_b, sp_222, sp_bd, c2, show sp_in x 0 (len : Int) = 1 from by unfold sp_in; rw [if_neg (by omega), if_neg (by omega)], if_neg (by decide), d2, sp_bd]
      by_cases z1 : rr = 1
      · rw [if_neg (fun y => y z1), if_neg (fun y => y z1)]
      · rw [if_pos z1, if_pos z1, sp_jn]
        by_cases z2 : rr = -2
        · rw [if_pos z2, if_pos z2]
          try dsimp only
          rw [if_pos (by omega)]
        · rw [if_neg z2, if_neg z2]
          by_cases z3 : rr = 2
          · rw [if_neg (fun y => y z3), if_pos z3]
            try dsimp only
            rw [if_neg (fun y => y z3)]
          · rw [if_pos z3, if_neg z3, sp_jn, if_neg (by decide), sp_ck (by omega)]
    rcases d3 with ⟨e1, e2, e3⟩ | ⟨e1, e2, e3⟩
    · exact ⟨-2, -2, S2, T2, hc _ _ (by rw [if_neg e2]) (fun _ y => absurd y e2), hr _ _ (by rw [if_pos (by omega), if_pos e1]), e3, Or.inl ⟨rfl, rfl⟩⟩
    · obtain ⟨f1, f2, f3⟩ := h1 S2 T2 e2
      have on : rc ≠ 1 → rc ≠ 3 → rr ≠ 1 → rr ≠ -2 → rr ≠ 2 → ∃ vc vr S2 T2, jl_116_9 Q (q + 1) x S = some (vc, S2) ∧ jl_308_13 Q (p : Int) 1 (q2 + 1) x T = some (vr, T2) ∧ TOLD Q B 0 vc vr S2 T2 := fun y1 y2 y3 y4 y5 => by
        obtain ⟨vc, vr, S3, T3, i1, i2, i3⟩ := ih q q2 (x - 1) S2 T2 e2 (by omega) (by omega) (by omega) (by omega) (by omega)
        exact ⟨vc, vr, S3, T3, hc _ _ (by rw [if_pos e1, if_pos y1, if_pos y2]; exact i1) (fun y => absurd y y1), hr _ _ (by rw [if_pos y3, if_neg y4, if_neg y5]; exact i2), i3⟩
      rcases e3 with ⟨g1, g2, g3⟩ | ⟨g1, g2⟩ | ⟨g1, g2, g3⟩ | ⟨g1, g2⟩
      · obtain ⟨V, v1, v2, v3, v4⟩ := fnd_keep hQ g3 ⟨by omega, by omega⟩
        refine ⟨_, 1, S2, V, hc _ _ (by rw [if_pos e1, if_neg (fun y => y g1)]) (fun _ _ => ⟨by rw [g3.1]; omega, by have := g3.2.2.1; omega⟩), hr _ _ (by rw [if_neg (fun y => y g2), v1, sp_bd]), h3 S2 T2 V f1 v3 v4, Or.inr ⟨by rw [v3 _ _ (by decide) (by decide)]; exact f2, Or.inr ⟨rfl, x, by rw [g3.1], v2, by omega⟩⟩⟩
      · exact ⟨-1, 0, S2, T2, hc _ _ (by rw [if_pos e1, if_pos (by omega), if_neg (fun y => y g1)]) (fun y => by omega), hr _ _ (by rw [if_pos (by omega), if_neg (by omega), if_pos g2]), f1, Or.inr ⟨f2, Or.inl ⟨rfl, rfl⟩⟩⟩
      · exact on (by omega) (by omega) (by omega) (by omega) (by omega)
      · exact on (by omega) (by omega) (by omega) (by omega) (by omega)
theorem sp_backw (h : SIM Q p k w len B R) (hl : len ≤ 160) (hQ : 400 ≤ Q) (hB : B S T) (hx : 0 ≤ x ∧ x ≤ (len : Int)) : ∃ vc vr S2 T2, jm_116 Q (k + 1) (w + 1) x S = some (vc, S2) ∧ jm_308 Q (p : Int) x 1 T = some (vr, T2) ∧ TOLD Q B 0 vc vr S2 T2 := by
  obtain ⟨vc, vr, S2, T2, g1, g2, g3⟩ := run_back h hl (by omega) 162 Q Q x _ _ (h.2.2.2.1 S T hB) (by omega) hx.2 (by omega) (by omega) (by omega)
  exact ⟨vc, vr, S2, T2, g1, g2, g3⟩
end OPYJ
