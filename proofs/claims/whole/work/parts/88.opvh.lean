/-! THE READER: one turn of both loops -/
section RLOOP
variable {Q k n m w d N M D lv t : Nat} {φ ψ own inn G R ws y rk : Nat → Nat} {P : Nat → Int} {S T S0 T0 S1 S' S2 T' T2 T1 T3 U : ev_St} {Z Z2 : Nat → Prop}
/-- the class's end of a text as a whole -/
def cE (Q : Nat) (s28 : ev_St) : Option (Int × ev_St) := ev_b (s28.1 3 10) fun x50 => if x50 ≠ 0 then (some (0, s28)) else (ev_bd (jm_100 Q  s28) fun x53 s52 => if x53 = 0 then (some (0, s52)) else (ev_bd (jm_113 Q  s52) fun x56 s55 => if x56 = 0 then (some (0, s55)) else (some (1, s55))))
/-- the reference's -/
def rEnd (Q : Nat) (x30 : Int) (s33 : ev_St) : Option (Int × ev_St) := ev_if (ev_bl x30) (ev_b (ev_pI s33 621 25 x30) fun s34 => ev_b (s34.1 621 25) fun x36 => ev_jn (fun  (s39 : ev_St) => ev_b (s39.1 621 25) fun x40 => if x40 = 0 then (ev_b (s39.1 621 27) fun x42 => some (x42, s39)) else (some ((-1), s39))) fun K235 => if x36 ≠ 0 then (K235  s34) else (ev_bd (jm_264 Q  s34) fun _ s44 => K235  s44))
theorem ck_1 {β : Type} {e : Int} {f : Int → Option β} (h : ev_rng e) : ev_ck e f = f e := if_pos h
theorem ck_0 {β : Type} {e : Int} {f : Int → Option β} (h : ¬ ev_rng e) : ev_ck e f = none := if_neg h
theorem enR_K {K : ev_St → Option (Int × ev_St)} (h : enR Q S = some ((), T')) : (ev_b (S.1 621 31) fun x59 => ev_ck (x59 - 1) fun x60 => ev_if ((0 : Int) ≤ x60 ∧ x60 < (ev_aln 650 : Int)) (ev_b (S.1 650 (Int.toNat x60)) fun x61 => ev_jn (fun (x62 : Int) (s65 : ev_St) => ev_if (ev_bl x62) (ev_b (ev_pI s65 621 25 x62) fun s66 => ev_b (s66.1 621 28) fun x68 => ev_ck (x68 - 1) fun x69 => ev_b (ev_pI s66 621 28 x69) fun s70 => ev_b (s70.1 621 25) fun x71 => if x71 ≠ 0 then (K  s70) else (ev_bd (jm_240 Q  s70) fun _ s73 => K  s73))) fun K173 => if x61 ≠ 0 then (K173 0 S) else (K173 1 S))) = K T' := by
  have hA : ∀ g : Int, (ev_if (ev_bl g) (ev_b (ev_pI S 621 25 g) fun s66 => ev_b (s66.1 621 28) fun x68 => ev_ck (x68 - 1) fun x69 => ev_b (ev_pI s66 621 28 x69) fun s70 => ev_b (s70.1 621 25) fun x71 => if x71 ≠ 0 then some ((), s70) else (jm_240 Q  s70))) = some ((), T') → (ev_if (ev_bl g) (ev_b (ev_pI S 621 25 g) fun s66 => ev_b (s66.1 621 28) fun x68 => ev_ck (x68 - 1) fun x69 => ev_b (ev_pI s66 621 28 x69) fun s70 => ev_b (s70.1 621 25) fun x71 => if x71 ≠ 0 then (K  s70) else (ev_bd (jm_240 Q  s70) fun _ s73 => K  s73))) = K T' := fun g hg => by
    by_cases c1 : ev_bl g
    · rw [sp_if c1, sp_b, sp_b] at hg ⊢
      by_cases c2 : ev_rng ((ev_pI S 621 25 g).1 621 28 - 1)
      · rw [ck_1 c2, sp_b, sp_b] at hg ⊢
        generalize ev_pI (ev_pI S 621 25 g) 621 28 ((ev_pI S 621 25 g).1 621 28 - 1) = s70 at hg ⊢
        by_cases c3 : s70.1 621 25 ≠ 0
        · rw [if_pos c3] at hg ⊢
          obtain rfl := (Prod.mk.inj (Option.some.inj hg)).2
          rfl
        · rw [if_neg c3] at hg ⊢
          rw [hg, sp_bd]
      · rw [ck_0 c2] at hg
        exact absurd hg (by simp)
    · unfold ev_if at hg
      rw [if_neg c1] at hg
      exact absurd hg (by simp)
  unfold enR at h
  rw [sp_b] at h ⊢
  by_cases c2 : ev_rng (S.1 621 31 - 1)
  · rw [ck_1 c2] at h ⊢
    by_cases c4 : (0 : Int) ≤ S.1 621 31 - 1 ∧ S.1 621 31 - 1 < (ev_aln 650 : Int)
    · rw [sp_if c4, sp_b, sp_jn] at h ⊢
      by_cases c5 : S.1 650 (Int.toNat (S.1 621 31 - 1)) ≠ 0
      · rw [if_pos c5] at h ⊢
        exact hA 0 h
      · rw [if_neg c5] at h ⊢
        exact hA 1 h
    · unfold ev_if at h
      rw [if_neg c4] at h
      exact absurd h (by simp)
  · rw [ck_0 c2] at h
    exact absurd h (by simp)
/-- a sign stands ahead of the end -/
theorem at_ne {p : Int} (ht : RIt lv ws S T) (hp : 0 ≤ p ∧ p < S.1 (ws lv) 1) : sp_at S (ws lv) p ≠ -1 := by
  obtain ⟨hD, hP, _, hl, _⟩ := ht
  have sg : sp_sign (S.1 (ws lv + 1) p.toNat) = 1 := by
    rcases (hl lv (Nat.le_refl _)).1 with ⟨_, _, z⟩ | ⟨_, l, h1, _, z, h2⟩
    · rw [z] at hp ⊢
      exact (hD.2.2 p.toNat (by omega)).2
    · rw [z] at hp ⊢
      rcases hP l h1 with ⟨y, _⟩ | ⟨_, z1, z2, z3⟩
      · omega
      · exact (z3 p.toNat (by omega)).2
  unfold sp_at
  rw [if_pos hp]
  have := sp_sign_r sg
  omega
/-- a turn of the class -/
theorem turn_C {q : Nat} {x p : Int} (ht : RIt lv ws S T) (hp : T.1 645 lv = p) (hx : 0 ≤ x ∧ x < 100000) : (p < S.1 (ws lv) 1 → (∀ S', jm_85 Q S = some (0, S') → jl_83_59 Q (q + 1) x S = some (0, S')) ∧ ∀ S', jm_85 Q S = some (1, S') → jl_83_59 Q (q + 1) x S = jl_83_59 Q q (x + 1) S') ∧ (S.1 (ws lv) 1 ≤ p → lv ≠ 0 → (∀ S', jm_112 Q S = some (0, S') → jl_83_59 Q (q + 1) x S = some (0, S')) ∧ ∀ S', jm_112 Q S = some (1, S') → jl_83_59 Q (q + 1) x S = jl_83_59 Q q (x + 1) S') ∧ (S.1 (ws lv) 1 ≤ p → lv = 0 → jl_83_59 Q (q + 1) x S = cE Q S) := by
  have h8 : S.1 3 8 = p := ht.2.2.2.2.2.1.2.trans hp
  have h7 : S.2.2.1 3 7 = ws lv + 1 := ht.2.2.2.2.2.1.1
  have h6 : S.1 3 6 = (lv : Int) := ht.2.2.1.2.2
  refine ⟨fun h => ?_, fun h hl => ?_, fun h hl => ?_⟩
  · have st : ∀ {A}, (ev_bd (jm_85 Q S) fun x42 s41 => if x42 ≠ 0 then (ev_ck (x + 1) fun x39 => jl_83_59 Q q x39 s41) else (some (0, s41))) = A → jl_83_59 Q (q + 1) x S = A := fun {A} hA => by
      show jb_83_59 Q _ _ _ = _
      unfold jb_83_59
      rw [if_neg (by omega), sp_b, sp_b, h7, sp_if (by omega), Nat.add_sub_cancel, sp_b, h8, sp_jn, if_pos h]
      try dsimp only
      rw [sp_jn, if_pos rfl]
      try dsimp only
      rw [sp_jn, if_pos rfl, ← hA]
    refine ⟨fun S' hS => st ?_, fun S' hS => st ?_⟩
    · rw [hS, sp_bd, if_neg (fun z => z rfl)]
    · rw [hS, sp_bd, if_pos (by decide), sp_ck (by omega)]
  · have st : ∀ {A}, (ev_bd (jm_112 Q S) fun x45 s44 => if x45 = 0 then (some (0, s44)) else (ev_ck (x + 1) fun x39 => jl_83_59 Q q x39 s44)) = A → jl_83_59 Q (q + 1) x S = A := fun {A} hA => by
      show jb_83_59 Q _ _ _ = _
      unfold jb_83_59
      rw [if_neg (by omega), sp_b, sp_b, h7, sp_if (by omega), Nat.add_sub_cancel, sp_b, h8, sp_jn, if_neg (by omega)]
      try dsimp only
      rw [sp_jn, if_neg (by decide), sp_b, h6, if_pos (by omega)]
      try dsimp only
      rw [sp_jn, if_neg (by decide), ← hA]
    refine ⟨fun S' hS => st ?_, fun S' hS => st ?_⟩
    · rw [hS, sp_bd, if_pos rfl]
    · rw [hS, sp_bd, if_neg (by decide), sp_ck (by omega)]
  · show jb_83_59 Q _ _ _ = _
    unfold jb_83_59
    rw [if_neg (by omega), sp_b, sp_b, h7, sp_if (by omega), Nat.add_sub_cancel, sp_b, h8, sp_jn, if_neg (by omega)]
    try dsimp only
    rw [sp_jn, if_neg (by decide), sp_b, h6, if_neg (by omega)]
    rfl
/-- a turn of the reference -/
theorem turn_R {q : Nat} {p : Int} (ht : RIt lv ws S T) (h25 : T.1 621 25 = 0) (hp : T.1 645 lv = p) (hp0 : 0 ≤ p ∧ p ≤ 200) : (p < S.1 (ws lv) 1 → ∀ T', jm_263 Q T = some ((), T') → jl_265_114 Q (q + 1) T = jl_265_114 Q q T') ∧ (S.1 (ws lv) 1 ≤ p → lv ≠ 0 → ∀ T', enR Q T = some ((), T') → jl_265_114 Q (q + 1) T = jl_265_114 Q q T') ∧ (S.1 (ws lv) 1 ≤ p → lv = 0 → jl_265_114 Q (q + 1) T = rEnd Q (if T.1 621 31 = 1 then 0 else 1) T) := by
  have h28 : T.1 621 28 = (lv : Int) := ht.2.2.1.2.1
  have pk : jm_233 Q 0 T = some (sp_at S (ws lv) p, T) := by
    have := pk_T (Q := Q) (a := 0) (U := T) (x := p) ht (fun _ _ _ => rfl) hp (by omega)
    rw [Int.add_zero] at this
    exact this
  have hov : S.1 (ws lv) 1 ≤ p → sp_at S (ws lv) p = -1 := fun h => by
    by_cases z : sp_at S (ws lv) p = -1
    · exact z
    · have := at_in (S := S) (w := ws lv) (p := p) (by omega) z
      omega
  refine ⟨fun h T' hT => ?_, fun h hl T' hT => ?_, fun h hl => ?_⟩
  · have ne := at_ne (p := p) ht (by omega)
    show jb_265_114 Q _ _ = _
    unfold jb_265_114
    rw [sp_b, h25, sp_jn, if_neg (fun z => z rfl), sp_b, h28, sp_jn]
    by_cases hl : lv = 0
    · rw [if_neg (by omega), pk, sp_bd, if_neg ne]
      try dsimp only
      rw [pk, sp_bd, if_neg ne, hT, sp_bd]
    · rw [if_pos (by omega)]
      try dsimp only
      rw [pk, sp_bd, if_neg ne, hT, sp_bd]
  · show jb_265_114 Q _ _ = _
    unfold jb_265_114
    rw [sp_b, h25, sp_jn, if_neg (fun z => z rfl), sp_b, h28, sp_jn, if_pos (by omega)]
    try dsimp only
    rw [pk, sp_bd, if_pos (hov h)]
    exact enR_K hT
  · show jb_265_114 Q _ _ = _
    unfold jb_265_114
    rw [sp_b, h25, sp_jn, if_neg (fun z => z rfl), sp_b, h28, sp_jn, if_neg (by omega), pk, sp_bd, if_pos (hov h)]
    try dsimp only
    rw [sp_b, h25, sp_jn, sp_jn, if_neg (fun z => z rfl), sp_b]
    by_cases z : T.1 621 31 = 1
    · rw [if_pos z, if_pos z]
      rfl
    · rw [if_neg z, if_neg z]
      rfl
/-- where it is bad the reference ends -/
theorem turn_bad {q : Nat} (h25 : T.1 621 25 = 1) : ∃ T', jl_265_114 Q (q + 1) T = some (-1, T') ∧ LOW T T' := by
  refine ⟨ev_pI T 621 25 1, ?_, fun c g z => by unfold LOWc at z; exact rd_nk (by omega), fun _ _ _ _ _ => rfl⟩
  show jb_265_114 Q _ _ = _
  unfold jb_265_114
  rw [sp_b, h25, sp_jn, if_pos (by decide)]
  try dsimp only
  rw [sp_b, h25, sp_jn, sp_jn, if_pos (by decide)]
  try dsimp only
  rw [sp_if (show ev_bl 1 from Or.inr rfl), sp_b, rd_eq, sp_b, sp_jn, if_pos (by decide)]
  try dsimp only
  rw [sp_b, rd_eq, if_neg (by decide)]
end RLOOP
