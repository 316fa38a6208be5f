/-! THE READER: names and groups that are told: the class's look -/
section RRES
variable {Q k n m w d N M D lv t : Nat} {S T O S0 T0 S1 S' S2 T' T2 T1 T3 U : ev_St}
def cnC (k : Nat) (O : ev_St) (b : Nat) : Int := if O.1 (k + 1) b = 7 ∧ O.1 (k + 2) b < 0 then O.1 (k + 11) (-O.1 (k + 2) b - 1).toNat else O.1 (k + 2) b
abbrev okC (k : Nat) (O : ev_St) (b : Nat) : Prop := (O.1 (k + 1) b = 7 ∧ O.1 (k + 2) b < 0 → cnC k O b ≠ 0) ∧ (O.1 (k + 1) b = 7 ∨ O.1 (k + 1) b = 8 ∨ O.1 (k + 1) b = 9 → cnC k O b ≤ O.1 k 12)
def CCi (k x : Nat) (O S : ev_St) : Prop := (∀ a g, ¬ (a = k + 2 ∧ g < x) → S.1 a g = O.1 a g) ∧ (∀ b, b < x → S.1 (k + 2) b = cnC k O b) ∧ S.2 = O.2 ∧ ∀ b, b < x → okC k O b
theorem res_half {c v : Int} {x : Nat} {T2 : ev_St} {K : Int → ev_St → Option (Int × ev_St)} (hk : ev_isOb k 5 = true) (h9 : O.2.2.1 3 9 = k + 1) (hM2 : M ≤ 400) (hxM : x < M) (f2 : T2.1 (k + 2) x = v) (f3 : T2.2 = O.2) (e12 : T2.1 k 12 = O.1 k 12) : (ev_jn (fun (x26 : Int) (s30 : ev_St) => ev_jn (fun  (s34 : ev_St) => ev_ck ((x : Int) + 1) fun x35 => K x35 s34) fun K152 => if x26 = 0 then (K152  s30) else (ev_b (s30.2.2.1 3 9) fun r37 => ev_if (r37 ≠ 0) (ev_if ((0 : Int) ≤ (x : Int) ∧ (x : Int) < (ev_aln (((r37 - 1) + 2)) : Int)) (ev_b (s30.1 (((r37 - 1) + 2)) (Int.toNat (x : Int))) fun x39 => ev_b (s30.2.2.1 3 9) fun r40 => ev_if (r40 ≠ 0) (ev_b (s30.1 ((r40 - 1)) 12) fun x42 => if x39 ≤ x42 then (K152  s30) else (some (0, s30))))))) fun K126 => ev_jn (fun  (s47 : ev_St) => K126 1 s47) fun K121 => if c = 7 then (K121  T2) else (if c = 8 then (K121  T2) else (if c ≠ 9 then (K126 0 T2) else (K121  T2)))) = if (c = 7 ∨ c = 8 ∨ c = 9) ∧ ¬ v ≤ O.1 k 12 then some (0, T2) else K ((x + 1 : Nat) : Int) T2 := by
  obtain ⟨l1, l2, l3, l4, l5, l6, l7, l8, l9⟩ := al_Pt hk
  have x1 : (x : Int) + 1 = ((x + 1 : Nat) : Int) := by omega
  have tail : ∀ y : Int, (y = 1 ∧ (c = 7 ∨ c = 8 ∨ c = 9)) ∨ (y = 0 ∧ ¬ (c = 7 ∨ c = 8 ∨ c = 9)) → (ev_jn (fun  (s34 : ev_St) => ev_ck ((x : Int) + 1) fun x35 => K x35 s34) fun K152 => if y = 0 then (K152  T2) else (ev_b (T2.2.2.1 3 9) fun r37 => ev_if (r37 ≠ 0) (ev_if ((0 : Int) ≤ (x : Int) ∧ (x : Int) < (ev_aln (((r37 - 1) + 2)) : Int)) (ev_b (T2.1 (((r37 - 1) + 2)) (Int.toNat (x : Int))) fun x39 => ev_b (T2.2.2.1 3 9) fun r40 => ev_if (r40 ≠ 0) (ev_b (T2.1 ((r40 - 1)) 12) fun x42 => if x39 ≤ x42 then (K152  T2) else (some (0, T2))))))) = if (c = 7 ∨ c = 8 ∨ c = 9) ∧ ¬ v ≤ O.1 k 12 then some (0, T2) else K ((x + 1 : Nat) : Int) T2 := fun y hy => by
    rw [sp_jn]
    rcases hy with ⟨y1, y2⟩ | ⟨y1, y2⟩
    · rw [if_neg (by omega), f3, h9, sp_b, sp_if (by omega), show k + 1 - 1 + 2 = k + 2 from by omega, sp_if (by rw [l2]; omega), Int.toNat_natCast, f2, sp_b, sp_b, sp_if (by omega), Nat.add_sub_cancel, e12, sp_b]
      by_cases z : v ≤ O.1 k 12
      · rw [if_pos z, if_neg (fun w => w.2 z)]
        try dsimp only
        rw [sp_ck (by omega), x1]
      · rw [if_neg z, if_pos ⟨y2, z⟩]
    · rw [if_pos y1, if_neg (fun w => y2 w.1)]
      try dsimp only
      rw [sp_ck (by omega), x1]
  rw [sp_jn, sp_jn]
  by_cases c7 : c = 7
  · rw [if_pos c7]
    exact tail 1 (Or.inl ⟨rfl, Or.inl c7⟩)
  · rw [if_neg c7]
    by_cases c8 : c = 8
    · rw [if_pos c8]
      exact tail 1 (Or.inl ⟨rfl, Or.inr (Or.inl c8)⟩)
    · rw [if_neg c8]
      by_cases c9 : c = 9
      · rw [if_neg (fun z => z c9)]
        exact tail 1 (Or.inl ⟨rfl, Or.inr (Or.inr c9)⟩)
      · rw [if_pos c9]
        exact tail 0 (Or.inr ⟨rfl, by omega⟩)
theorem res_step {q x : Nat} (hk : ev_isOb k 5 = true) (h9 : O.2.2.1 3 9 = k + 1) (hM : O.1 k 11 = (M : Int)) (hM2 : M ≤ 400) (hv : ∀ b, b < M → O.1 (k + 1) b = 7 → -26 ≤ O.1 (k + 2) b ∧ O.1 (k + 2) b ≤ 9) (hxM : x < M) (hS : CCi k x O S) : (okC k O x → ∃ T2, CCi k (x + 1) O T2 ∧ jl_113_2 Q (q + 1) (x : Int) S = jl_113_2 Q q ((x + 1 : Nat) : Int) T2) ∧ (¬ okC k O x → ∃ S', jl_113_2 Q (q + 1) (x : Int) S = some (0, S')) := by
  obtain ⟨l1, l2, l3, l4, l5, l6, l7, l8, l9⟩ := al_Pt hk
  obtain ⟨l10, l11⟩ := al_B hk
  obtain ⟨t1, t2, t3, t4⟩ := hS
  have e1 : S.1 (k + 1) x = O.1 (k + 1) x := t1 _ _ (by omega)
  have e2 : S.1 (k + 2) x = O.1 (k + 2) x := t1 _ _ (by omega)
  have e12 : S.1 k 12 = O.1 k 12 := t1 _ _ (by omega)
  obtain ⟨c, hc⟩ : ∃ c, c = O.1 (k + 1) x := ⟨_, rfl⟩
  obtain ⟨v, hv'⟩ : ∃ v, v = cnC k O x := ⟨_, rfl⟩
  obtain ⟨T2, hT2⟩ : ∃ T2, T2 = ev_pI S (k + 2) x v := ⟨_, rfl⟩
  have f1 : ∀ a g, ¬ (a = k + 2 ∧ g = x) → T2.1 a g = S.1 a g := fun a g h => by rw [hT2, sp_pI1, if_neg h]
  have f2 : T2.1 (k + 2) x = v := by rw [hT2, rd_eq]
  have f3 : T2.2 = O.2 := by rw [hT2]; exact t3
  have okx : okC k O x ↔ ¬ (c = 7 ∧ O.1 (k + 2) x < 0 ∧ v = 0) ∧ ¬ ((c = 7 ∨ c = 8 ∨ c = 9) ∧ ¬ v ≤ O.1 k 12) := by
    rw [hc, hv']
    constructor
    · intro h
      exact ⟨fun z => h.1 ⟨z.1, z.2.1⟩ z.2.2, fun z => z.2 (h.2 z.1)⟩
    · intro h
      refine ⟨fun z y => h.1 ⟨z.1, z.2, y⟩, fun z => ?_⟩
      by_cases y : cnC k O x ≤ O.1 k 12
      · exact y
      · exact absurd ⟨z, y⟩ h.2
  have step : (okC k O x → jl_113_2 Q (q + 1) (x : Int) S = jl_113_2 Q q ((x + 1 : Nat) : Int) T2) ∧ (¬ okC k O x → ∃ S', jl_113_2 Q (q + 1) (x : Int) S = some (0, S')) := by
    have hh := res_half (c := c) (K := jl_113_2 Q q) hk h9 hM2 hxM f2 f3 (by rw [f1 _ _ (by omega), e12])
    have st : ∀ {A}, (if c = 7 ∧ O.1 (k + 2) x < 0 ∧ v = 0 then some ((0 : Int), T2) else if (c = 7 ∨ c = 8 ∨ c = 9) ∧ ¬ v ≤ O.1 k 12 then some (0, T2) else jl_113_2 Q q ((x + 1 : Nat) : Int) T2) = A → jl_113_2 Q (q + 1) (x : Int) S = A := fun {A} hA => by
      rw [← hA]
      show jb_113_2 Q _ _ _ = _
      unfold jb_113_2
      have E2 : k + 1 - 1 + 2 = k + 2 := by omega
      have E11 : k + 1 - 1 + 11 = k + 11 := by omega
      rw [Int.toNat_natCast] at hh
      rw [t3, h9, sp_b, sp_if (by omega), Nat.add_sub_cancel, t1 k 11 (by omega), hM, sp_b, sp_jn, if_neg (by omega), if_neg (by omega), sp_b, sp_if (by omega), Nat.add_sub_cancel, sp_if (by rw [l1]; omega), Int.toNat_natCast, e1, ← hc, sp_b, sp_jn]
      by_cases c7 : c = 7
      · rw [if_neg (fun z => z c7), sp_b, sp_if (by omega), E2, sp_if (by rw [l2]; omega), e2, sp_b]
        by_cases neg : 0 ≤ O.1 (k + 2) x
        · have ev : v = O.1 (k + 2) x := by
            rw [hv']
            unfold cnC
            rw [if_neg (by omega)]
          have eT : T2 = S := by
            rw [hT2, ev, pI_idx e2]
          rw [if_pos neg, if_neg (by omega)]
          rw [eT] at hh ⊢
          exact hh
        · have nv := hv x hxM (by omega)
          have ev : v = O.1 (k + 11) (-O.1 (k + 2) x - 1).toNat := by
            rw [hv']
            unfold cnC
            rw [if_pos ⟨by omega, by omega⟩]
          rw [if_neg neg, sp_b, sp_if (by omega), E2, sp_if (by rw [l2]; omega), e2, sp_b, sp_ck (by omega), sp_ck (by omega), sp_b, sp_if (by omega), sp_jn, if_neg (by omega), sp_b, sp_if (by omega), E11, sp_if (by rw [l11]; omega), t1 (k + 11) _ (by omega), ← ev, sp_b]
          try dsimp only
          rw [E2, sp_if (by rw [l2]; omega), Int.toNat_natCast, sp_b, ← hT2, f3, h9, sp_b, sp_if (by omega), E2, sp_if (by rw [l2]; omega), f2, sp_b]
          by_cases z : v = 0
          · rw [if_neg (fun w => w z), if_pos ⟨c7, by omega, z⟩]
          · rw [if_pos z, if_neg (fun w => z w.2.2)]
            exact hh
      · have ev : v = O.1 (k + 2) x := by
          rw [hv']
          unfold cnC
          rw [if_neg (by omega)]
        have eT : T2 = S := by
          rw [hT2, ev, pI_idx e2]
        rw [if_pos c7, if_neg (fun w => c7 w.1)]
        rw [eT] at hh ⊢
        exact hh
    constructor
    · intro h
      have h' := okx.mp h
      exact st (by rw [if_neg h'.1, if_neg h'.2])
    · intro h
      refine ⟨T2, st ?_⟩
      by_cases z1 : c = 7 ∧ O.1 (k + 2) x < 0 ∧ v = 0
      · rw [if_pos z1]
      · rw [if_neg z1]
        by_cases z2 : (c = 7 ∨ c = 8 ∨ c = 9) ∧ ¬ v ≤ O.1 k 12
        · rw [if_pos z2]
        · exact absurd (okx.mpr ⟨z1, z2⟩) h
  refine ⟨fun B => ⟨T2, ⟨fun a g h => ?_, fun b hb => ?_, f3, fun b hb => ?_⟩, step.1 B⟩, step.2⟩
  · rw [f1 a g (by omega), t1 a g (by omega)]
  · by_cases e : b = x
    · rw [e, f2, hv']
    · rw [f1 _ _ (by omega), t2 b (by omega)]
  · by_cases e : b = x
    · rw [e]
      exact B
    · exact t4 b (by omega)
theorem res_C (hk : ev_isOb k 5 = true) (h9 : O.2.2.1 3 9 = k + 1) (hM : O.1 k 11 = (M : Int)) (hM2 : M ≤ 400) (hv : ∀ b, b < M → O.1 (k + 1) b = 7 → -26 ≤ O.1 (k + 2) b ∧ O.1 (k + 2) b ≤ 9) : ∀ (n q x : Nat) (S : ev_St), M - x = n → x ≤ M → n < q → CCi k x O S → ((∀ b, b < M → okC k O b) → ∃ S2, CCi k M O S2 ∧ jl_113_2 Q q (x : Int) S = ev_bd (jm_67 Q k S2) fun _ s => some (1, s)) ∧ ((¬ ∀ b, b < M → okC k O b) → ∃ S', jl_113_2 Q q (x : Int) S = some (0, S')) := fun n => by
  obtain ⟨l1, l2, l3, l4, l5, l6, l7, l8, l9⟩ := al_Pt hk
  obtain ⟨l10, l11⟩ := al_B hk
  induction n with
  | zero =>
    intro q x S hn hx hq hS
    obtain ⟨q', rfl⟩ : ∃ q', q = q' + 1 := ⟨q - 1, by omega⟩
    have e : x = M := by omega
    subst e
    refine ⟨fun _ => ⟨S, hS, ?_⟩, fun z => absurd hS.2.2.2 z⟩
    show jb_113_2 Q _ _ _ = _
    unfold jb_113_2
    rw [hS.2.2.1, h9, sp_b, sp_if (by omega), Nat.add_sub_cancel, hS.1 k 11 (by omega), hM, sp_b, sp_jn, if_pos (Int.le_refl _)]
    try dsimp only
    rw [hS.2.2.1, h9, sp_b, sp_if (by omega), Nat.add_sub_cancel]
  | succ n ih =>
    intro q x S hn hx hq hS
    obtain ⟨q', rfl⟩ : ∃ q', q = q' + 1 := ⟨q - 1, by omega⟩
    have hxM : x < M := by omega
    have step := res_step (Q := Q) (q := q') hk h9 hM hM2 hv hxM hS
    by_cases B : okC k O x
    · obtain ⟨T2, hT, e⟩ := step.1 B
      have hi := ih q' (x + 1) T2 (by omega) (by omega) (by omega) hT
      refine ⟨fun h => ?_, fun h => ?_⟩
      · obtain ⟨S2, a1, a2⟩ := hi.1 h
        exact ⟨S2, a1, e.trans a2⟩
      · obtain ⟨S2, a1⟩ := hi.2 h
        exact ⟨S2, e.trans a1⟩
    · exact ⟨fun h => absurd (h x hxM) B, fun _ => step.2 B⟩
end RRES
