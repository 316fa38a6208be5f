/-! THE READER: names and groups that are told: the reference's look -/
section RCHK
variable {Q k n m w d N M D lv t : Nat} {S T O S0 T0 S1 S' S2 T' T2 T1 T3 U : ev_St}
/-- the number that a node tells at last -/
def ckn (O : ev_St) (m : Nat) : Int := if O.1 625 (3840 + m) = 7 ∧ O.1 628 (3840 + m) < 0 then O.1 638 (311 - O.1 628 (3840 + m)).toNat else O.1 628 (3840 + m)
abbrev okm (O : ev_St) (m : Nat) : Prop := (O.1 625 (3840 + m) = 7 ∧ O.1 628 (3840 + m) < 0 → ckn O m ≠ 0) ∧ (O.1 625 (3840 + m) = 7 ∨ O.1 625 (3840 + m) = 13 ∨ O.1 625 (3840 + m) = 14 → ckn O m ≤ O.1 636 12)
def CKi (N x : Nat) (O T : ev_St) : Prop := (∀ a g, ¬ (a = 621 ∧ g = 25) → ¬ (a = 628 ∧ 3840 ≤ g ∧ g < 3840 + x) → T.1 a g = O.1 a g) ∧ (∀ m, m < x → T.1 628 (3840 + m) = ckn O m) ∧ T.2 = O.2 ∧ ((T.1 621 25 = 0 ∧ ∀ m, m < x → okm O m) ∨ (T.1 621 25 = 1 ∧ ¬ ∀ m, m < x → okm O m))
theorem al_Ck : ev_aln 638 = 338 ∧ ev_aln 636 = 13 := by decide +kernel
theorem chk_R (hN : O.1 635 12 = (N : Int)) (hN2 : N ≤ 320) (hv : RV N O) : ∀ (n q x : Nat) (T : ev_St), N - x = n → x ≤ N → n < q → CKi N x O T → ∃ T2, jl_264_5 Q q (3840 + (x : Int)) T = some ((), T2) ∧ CKi N N O T2 := fun n => by
  obtain ⟨l1, l2, l3, l4, l5, l6, l7, l8, l9, l10, l11⟩ := al_N
  obtain ⟨m1, m2⟩ := al_Ck
  induction n with
  | zero =>
    intro q x T hn hx hq hT
    obtain ⟨q', rfl⟩ : ∃ q', q = q' + 1 := ⟨q - 1, by omega⟩
    have e : x = N := by omega
    subst e
    refine ⟨T, ?_, hT⟩
    show jb_264_5 Q _ _ _ = _
    unfold jb_264_5
    rw [sp_232, sp_bd, sp_if (by rw [l11]; omega), show (12 : Int).toNat = 12 from rfl, hT.1 635 12 (by omega) (by omega), hN, sp_b, sp_ck (by omega), if_pos (by omega)]
  | succ n ih =>
    intro q x T hn hx hq hT
    obtain ⟨q', rfl⟩ : ∃ q', q = q' + 1 := ⟨q - 1, by omega⟩
    obtain ⟨t1, t2, t3, t4⟩ := hT
    have hxN : x < N := by omega
    have vx := (hv.1 x hxN).1
    have e25 : T.1 625 (3840 + x) = O.1 625 (3840 + x) := t1 _ _ (by omega) (by omega)
    have e28 : T.1 628 (3840 + x) = O.1 628 (3840 + x) := t1 _ _ (by omega) (by omega)
    have e36 : T.1 636 12 = O.1 636 12 := t1 _ _ (by omega) (by omega)
    obtain ⟨c, hc⟩ : ∃ c, c = O.1 625 (3840 + x) := ⟨_, rfl⟩
    obtain ⟨v, hv'⟩ : ∃ v, v = ckn O x := ⟨_, rfl⟩
    obtain ⟨b1, hb1⟩ : ∃ b1 : Int, b1 = if T.1 621 25 ≠ 0 ∨ (c = 7 ∧ O.1 628 (3840 + x) < 0 ∧ v = 0) then 1 else 0 := ⟨_, rfl⟩
    obtain ⟨b2, hb2⟩ : ∃ b2 : Int, b2 = if b1 ≠ 0 ∨ ((c = 7 ∨ c = 13 ∨ c = 14) ∧ ¬ v ≤ O.1 636 12) then 1 else 0 := ⟨_, rfl⟩
    have hb1' : b1 = 0 ∨ b1 = 1 := by
      rw [hb1]
      split
      · exact Or.inr rfl
      · exact Or.inl rfl
    have hb2' : b2 = 0 ∨ b2 = 1 := by
      rw [hb2]
      split
      · exact Or.inr rfl
      · exact Or.inl rfl
    obtain ⟨T2, hT2⟩ : ∃ T2, T2 = ev_pI (ev_pI T 628 (3840 + x) v) 621 25 b1 := ⟨_, rfl⟩
    have f1 : ∀ a g, ¬ (a = 621 ∧ g = 25) → ¬ (a = 628 ∧ g = 3840 + x) → T2.1 a g = T.1 a g := fun a g h1 h2 => by rw [hT2, sp_pI1, if_neg h1, sp_pI1, if_neg h2]
    have f25 : T2.1 621 25 = b1 := by rw [hT2, rd_eq]
    have f28 : T2.1 628 (3840 + x) = v := by rw [hT2, rd_nk (by omega), rd_eq]
    have ex : ((3840 : Int) + (x : Int)).toNat = 3840 + x := by omega
    -- the second half
    have half : ∀ (K : Int → ev_St → Option (Unit × ev_St)), (ev_if ((0 : Int) ≤ 3840 + (x : Int) ∧ 3840 + (x : Int) < (ev_aln 625 : Int)) (ev_b (T2.1 625 (Int.toNat (3840 + (x : Int)))) fun x18 => ev_jn (fun (x19 : Int) (s23 : ev_St) => ev_b (s23.1 621 25) fun x24 => ev_jn (fun (x25 : Int) (s29 : ev_St) => ev_if (ev_bl x25) (ev_b (ev_pI s29 621 25 x25) fun s30 => ev_ck (3840 + (x : Int) + 1) fun x32 => K x32 s30)) fun K159 => ev_jn (fun  (s36 : ev_St) => K159 1 s36) fun K154 => if x24 ≠ 0 then (K154  s23) else (ev_jn (fun  (s41 : ev_St) => K159 0 s41) fun K158 => if x19 = 0 then (K158  s23) else (ev_if ((0 : Int) ≤ 3840 + (x : Int) ∧ 3840 + (x : Int) < (ev_aln 628 : Int)) (ev_b (s23.1 628 (Int.toNat (3840 + (x : Int)))) fun x43 => ev_if ((0 : Int) ≤ 12 ∧ 12 < (ev_aln 636 : Int)) (ev_b (s23.1 636 (Int.toNat 12)) fun x44 => if x43 ≤ x44 then (K158  s23) else (K154  s23)))))) fun K125 => ev_jn (fun  (s49 : ev_St) => K125 1 s49) fun K120 => if x18 = 7 then (K120  T2) else (ev_if ((0 : Int) ≤ 3840 + (x : Int) ∧ 3840 + (x : Int) < (ev_aln 625 : Int)) (ev_b (T2.1 625 (Int.toNat (3840 + (x : Int)))) fun x51 => if x51 = 13 then (K120  T2) else (ev_if ((0 : Int) ≤ 3840 + (x : Int) ∧ 3840 + (x : Int) < (ev_aln 625 : Int)) (ev_b (T2.1 625 (Int.toNat (3840 + (x : Int)))) fun x53 => if x53 ≠ 14 then (K125 0 T2) else (K120  T2))))))) = K (3840 + ((x + 1 : Nat) : Int)) (ev_pI T2 621 25 b2) := fun K => by
      have fin : ∀ b : Int, b = b2 → (ev_if (ev_bl b) (ev_b (ev_pI T2 621 25 b) fun s30 => ev_ck (3840 + (x : Int) + 1) fun x32 => K x32 s30)) = K (3840 + ((x + 1 : Nat) : Int)) (ev_pI T2 621 25 b2) := fun b hb => by
        rw [hb, sp_if (show ev_bl b2 from hb2'), sp_b, sp_ck (by omega), show 3840 + (x : Int) + 1 = 3840 + ((x + 1 : Nat) : Int) from by omega]
      rw [sp_if (by rw [l1]; omega), ex, f1 625 _ (by omega) (by omega), e25, ← hc, sp_b, sp_jn, sp_jn]
      have tail : ∀ y : Int, (y = 1 ∧ (c = 7 ∨ c = 13 ∨ c = 14)) ∨ (y = 0 ∧ ¬ (c = 7 ∨ c = 13 ∨ c = 14)) → (ev_b (T2.1 621 25) fun x24 => ev_jn (fun (x25 : Int) (s29 : ev_St) => ev_if (ev_bl x25) (ev_b (ev_pI s29 621 25 x25) fun s30 => ev_ck (3840 + (x : Int) + 1) fun x32 => K x32 s30)) fun K159 => ev_jn (fun  (s36 : ev_St) => K159 1 s36) fun K154 => if x24 ≠ 0 then (K154  T2) else (ev_jn (fun  (s41 : ev_St) => K159 0 s41) fun K158 => if y = 0 then (K158  T2) else (ev_if ((0 : Int) ≤ 3840 + (x : Int) ∧ 3840 + (x : Int) < (ev_aln 628 : Int)) (ev_b (T2.1 628 (Int.toNat (3840 + (x : Int)))) fun x43 => ev_if ((0 : Int) ≤ 12 ∧ 12 < (ev_aln 636 : Int)) (ev_b (T2.1 636 (Int.toNat 12)) fun x44 => if x43 ≤ x44 then (K158  T2) else (K154  T2)))))) = K (3840 + ((x + 1 : Nat) : Int)) (ev_pI T2 621 25 b2) := fun y hy => by
        rw [f25, sp_b, sp_jn, sp_jn]
        by_cases z : b1 = 0
        · rw [if_neg (fun w => w z), sp_jn]
          rcases hy with ⟨y1, y2⟩ | ⟨y1, y2⟩
          · rw [if_neg (by omega), sp_if (by rw [l4]; omega), ex, f28, sp_b, sp_if (by rw [m2]; omega), show (12 : Int).toNat = 12 from rfl, f1 636 _ (by omega) (by omega), e36, sp_b]
            by_cases z2 : v ≤ O.1 636 12
            · rw [if_pos z2]
              exact fin 0 (by rw [hb2, if_neg (by omega)])
            · rw [if_neg z2]
              exact fin 1 (by rw [hb2, if_pos (Or.inr ⟨y2, z2⟩)])
          · rw [if_pos y1]
            exact fin 0 (by rw [hb2, if_neg (by omega)])
        · rw [if_pos z]
          exact fin 1 (by rw [hb2, if_pos (Or.inl z)])
      by_cases c7 : c = 7
      · rw [if_pos c7]
        exact tail 1 (Or.inl ⟨rfl, Or.inl c7⟩)
      · rw [if_neg c7, sp_if (by rw [l1]; omega), sp_b]
        by_cases c13 : c = 13
        · rw [if_pos c13]
          exact tail 1 (Or.inl ⟨rfl, Or.inr (Or.inl c13)⟩)
        · rw [if_neg c13, sp_if (by rw [l1]; omega), sp_b]
          by_cases c14 : c = 14
          · rw [if_neg (fun z => z c14)]
            exact tail 1 (Or.inl ⟨rfl, Or.inr (Or.inr c14)⟩)
          · rw [if_pos c14]
            exact tail 0 (Or.inr ⟨rfl, by omega⟩)
    have b25 : T.1 621 25 = 0 ∨ T.1 621 25 = 1 := by
      rcases t4 with z | z
      · exact Or.inl z.1
      · exact Or.inr z.1
    have step : jl_264_5 Q (q' + 1) (3840 + (x : Int)) T = jl_264_5 Q q' (3840 + ((x + 1 : Nat) : Int)) (ev_pI T2 621 25 b2) := by
      show jb_264_5 Q _ _ _ = _
      unfold jb_264_5
      rw [sp_232, sp_bd, sp_if (by rw [l11]; omega), show (12 : Int).toNat = 12 from rfl, t1 635 12 (by omega) (by omega), hN, sp_b, sp_ck (by omega), if_neg (by omega), sp_if (by rw [l1]; omega), ex, e25, ← hc, sp_b, sp_jn]
      by_cases c7 : c = 7
      · rw [if_neg (fun z => z c7), sp_if (by rw [l4]; omega), e28, sp_b]
        by_cases neg : 0 ≤ O.1 628 (3840 + x)
        · have ev : v = O.1 628 (3840 + x) := by
            rw [hv']
            unfold ckn
            rw [if_neg (by omega)]
          have eb : b1 = T.1 621 25 := by
            rw [hb1]
            rcases b25 with z | z
            · rw [if_neg (by omega), z]
            · rw [if_pos (by omega), z]
          have eT : T2 = T := by
            rw [hT2, ev, pI_idx (S := T) (x := O.1 628 (3840 + x)) e28, pI_idx eb.symm]
          rw [if_pos neg]
          have := half (jl_264_5 Q q')
          rw [eT] at this
          rw [ex] at this
          rw [eT]
          exact this
        · have nv := vx.2.2.1 (by omega)
          have ev : v = O.1 638 (311 - O.1 628 (3840 + x)).toNat := by
            rw [hv']
            unfold ckn
            rw [if_pos ⟨by omega, by omega⟩]
          rw [if_neg neg, sp_if (by rw [l4]; omega), sp_b, sp_ck (by omega), sp_if (by rw [m1]; omega), t1 638 _ (by omega) (by omega), ← ev, sp_b, sp_if (by rw [l4]; omega), sp_b, rd_nk (by omega), sp_b, sp_jn, sp_jn]
          have hh := half (jl_264_5 Q q')
          rw [ex] at hh
          by_cases z : T.1 621 25 = 0
          · rw [if_neg (fun w => w z), sp_if (by rw [l4]; omega), rd_eq, sp_b]
            by_cases z2 : v = 0
            · rw [if_neg (fun w => w z2)]
              try dsimp only
              rw [sp_if (show ev_bl 1 from Or.inr rfl), sp_b, show ev_pI (ev_pI T 628 (3840 + x) v) 621 25 1 = T2 from by rw [hT2, hb1, if_pos (by omega)]]
              exact hh
            · rw [if_pos z2]
              try dsimp only
              rw [sp_if (show ev_bl 0 from Or.inl rfl), sp_b, show ev_pI (ev_pI T 628 (3840 + x) v) 621 25 0 = T2 from by rw [hT2, hb1, if_neg (by omega)]]
              have hh' := hh
              exact hh'
          · rw [if_pos z]
            try dsimp only
            rw [sp_if (show ev_bl 1 from Or.inr rfl), sp_b, show ev_pI (ev_pI T 628 (3840 + x) v) 621 25 1 = T2 from by rw [hT2, hb1, if_pos (by omega)]]
            exact hh
      · have ev : v = O.1 628 (3840 + x) := by
          rw [hv']
          unfold ckn
          rw [if_neg (by omega)]
        have eb : b1 = T.1 621 25 := by
          rw [hb1]
          rcases b25 with z | z
          · rw [if_neg (by omega), z]
          · rw [if_pos (by omega), z]
        have eT : T2 = T := by
          rw [hT2, ev, pI_idx (S := T) (x := O.1 628 (3840 + x)) e28, pI_idx eb.symm]
        rw [if_pos c7]
        have := half (jl_264_5 Q q')
        rw [eT] at this
        rw [ex] at this
        rw [eT]
        exact this
    rw [step]
    refine ih q' (x + 1) _ (by omega) (by omega) (by omega) ⟨fun a g h1 h2 => ?_, fun m hm => ?_, ?_, ?_⟩
    · rw [sp_pI1, if_neg h1, f1 a g h1 (by omega), t1 a g h1 (by omega)]
    · rw [rd_nk (by omega)]
      by_cases e : m = x
      · rw [e, f28, hv']
      · rw [f1 _ _ (by omega) (by omega), t2 m (by omega)]
    · show T2.2 = _
      rw [hT2]
      exact t3
    · have okx : okm O x ↔ ¬ (c = 7 ∧ O.1 628 (3840 + x) < 0 ∧ v = 0) ∧ ¬ ((c = 7 ∨ c = 13 ∨ c = 14) ∧ ¬ v ≤ O.1 636 12) := by
        rw [hc, hv']
        constructor
        · intro h
          exact ⟨fun z => h.1 ⟨z.1, z.2.1⟩ z.2.2, fun z => z.2 (h.2 z.1)⟩
        · intro h
          refine ⟨fun z y => h.1 ⟨z.1, z.2, y⟩, fun z => ?_⟩
          by_cases y : ckn O x ≤ O.1 636 12
          · exact y
          · exact absurd ⟨z, y⟩ h.2
      rw [rd_eq]
      by_cases A : ∀ m, m < x → okm O m
      · have z0 : T.1 621 25 = 0 := by
          rcases t4 with z | z
          · exact z.1
          · exact absurd A z.2
        by_cases B : okm O x
        · have B' := okx.mp B
          have e1 : b1 = 0 := by rw [hb1, if_neg (fun z => z.elim (fun w => w z0) B'.1)]
          refine Or.inl ⟨by rw [hb2, if_neg (fun z => z.elim (fun w => w e1) B'.2)], fun m hm => ?_⟩
          by_cases e : m = x
          · rw [e]
            exact B
          · exact A m (by omega)
        · refine Or.inr ⟨?_, fun h => B (h x (by omega))⟩
          rw [hb2]
          by_cases C1 : c = 7 ∧ O.1 628 (3840 + x) < 0 ∧ v = 0
          · have e1 : b1 = 1 := by rw [hb1, if_pos (Or.inr C1)]
            rw [if_pos (Or.inl (by omega))]
          · by_cases C2 : (c = 7 ∨ c = 13 ∨ c = 14) ∧ ¬ v ≤ O.1 636 12
            · rw [if_pos (Or.inr C2)]
            · exact absurd (okx.mpr ⟨C1, C2⟩) B
      · have z1 : T.1 621 25 = 1 := by
          rcases t4 with z | z
          · exact absurd z.2 A
          · exact z.1
        have e1 : b1 = 1 := by rw [hb1, if_pos (Or.inl (by omega))]
        refine Or.inr ⟨by rw [hb2, if_pos (Or.inl (by omega))], fun h => A fun m hm => h m (by omega)⟩
end RCHK
