/-! THE READER: the end of a reading, on both sides -/
section RFIN2
variable {Q k n m w d N M D lv t : Nat} {φ ψ own up inn G R ws y rk : Nat → Nat} {P q : Nat → Int} {S O T S0 T0 S1 S' S2 T' T2 T1 T3 U : ev_St} {Z : Nat → Prop}
theorem rEnd_bad {x0 : Int} (hx : ev_bl x0) (h : x0 = 1) : ∃ T', rEnd Q x0 T = some (-1, T') ∧ LOW T T' := by
  subst h
  refine ⟨ev_pI T 621 25 1, ?_, fun c g z => by unfold LOWc at z; exact rd_nk (by omega), fun _ _ _ _ _ => rfl⟩
  unfold rEnd
  rw [sp_if hx, sp_b, rd_eq, sp_b, sp_jn, if_pos (by decide)]
  try dsimp only
  rw [sp_b, rd_eq, if_neg (by decide)]
theorem rEnd_ok (h25 : T.1 621 25 = 0) (h : jm_264 Q T = some ((), T2)) : rEnd Q 0 T = if T2.1 621 25 = 0 then some (T2.1 621 27, T2) else some (-1, T2) := by
  unfold rEnd
  rw [sp_if (show ev_bl 0 from Or.inl rfl), sp_b, pI_idx h25, h25, sp_b, sp_jn, if_neg (fun z => z rfl), h, sp_bd]
  try dsimp only
  rw [sp_b]
  rfl
theorem rd_fin (hQ : 1000 ≤ Q) (hk : ev_isOb k 5 = true) (hkr : 232 ≤ k) (h : RIa k 0 ws S T) : (∃ S' T', cE Q S = some (0, S') ∧ rEnd Q (if T.1 621 31 = 1 then 0 else 1) T = some (-1, T') ∧ LOW T T') ∨ ∃ S' T' N M φ ψ own up, cE Q S = some (1, S') ∧ rEnd Q (if T.1 621 31 = 1 then 0 else 1) T = some (S'.1 3 14, T') ∧ FINX k N M φ ψ own up S' T' ∧ (T'.1 621 27 = S'.1 3 14 ∧ 0 ≤ S'.1 3 14 ∧ S'.1 3 14 ≤ 150) ∧ FRx S T S' T' := by
  obtain ⟨N, M, D, φ, ψ, own, inn, G, R, P, q, y, hb, hgh, hz, hU⟩ := h
  obtain ⟨n1, n2, n3, n4, n5, n6⟩ := RIy_n hb
  obtain ⟨⟨hR, hL⟩, ht, hg, hc, hf, hy, h9, h25⟩ := hb
  have hD := hR.1.2.2.1
  have h31 := hR.1.2.2.2.1
  by_cases eD : D = 0
  · subst eD
    have ho := hR.2.2.2.2.1 0 (Nat.le_refl _)
    have hG0 := hg.2.2.2.2.1
    have m628 : T.1 628 (3840 + G 0) = 0 := by
      have v := (hz.2.2.2.1 (G 0) (hR.2.1 0 (Nat.le_refl _)).1).1.2.2.2.2.2
      refine v ?_
      rw [hG0]
      exact hz.2.1
    have l5 : -1 ≤ S.1 17 5 ∧ S.1 17 5 < M := by
      rcases ho.1 with ⟨_, _, _, z⟩ | ⟨t, u, _, ⟨z1, _, _, z⟩, _⟩
      · have z' : S.1 17 5 = -1 := z
        omega
      · have z' : S.1 17 5 = (φ t : Int) := z
        have := (hR.2.2.2.2.2 t z1).1.1
        omega
    have l4 : ∀ b : Nat, S.1 17 5 = (b : Int) → -1 ≤ S.1 17 4 ∧ S.1 17 4 < M := fun b hb => by
      rcases ho.1 with ⟨_, _, _, z⟩ | ⟨t, u, _, _, z1, _, _, z⟩
      · have z' : S.1 17 5 = -1 := z
        omega
      · have z' : S.1 17 4 = (φ u : Int) := z
        have := (hR.2.2.2.2.2 u z1).1.1
        omega
    have l6 : -1 ≤ S.1 17 6 ∧ S.1 17 6 < M := by
      rcases ho.2.1 with ⟨_, _, z, _⟩ | ⟨t, u, _, _, ⟨z1, _, _, z⟩, _⟩
      · have z' : S.1 17 6 = -1 := z
        omega
      · have z' : S.1 17 6 = (ψ u : Int) := z
        have := (hR.2.2.2.2.2 u z1).1.2.1
        omega
    have c5 := hc.2.2.1
    obtain ⟨S1, s1, e1, ⟨e2, e3, e4⟩, ⟨e5, e6, e6b⟩, ⟨e7, e8⟩, e9, e10, e11⟩ := sp_100r (Q := Q) (S := S) hk hkr h9 hD hR.1.2.1 (by omega) l5 (by
      have z := ho.2.2.2.2.1
      rw [if_pos rfl] at z
      exact z) (by
      have z := ho.2.2.2.2.2.1 (Or.inl rfl)
      rw [m628] at z
      exact z)
    have so : ∀ j b, 1 ≤ j → j ≤ 5 → b < M → ¬ (j = 5 ∧ S.1 17 5 = (b : Int)) → S1.1 (k + j) b = S.1 (k + j) b := fun j b h1 h2 h3 h4 => e10 _ _ (by omega) (by omega) (by omega) (by omega) (by omega) (by omega)
    have lF : -1 ≤ S1.1 (k + 4) (M + 1) ∧ S1.1 (k + 4) (M + 1) < (M : Int) + 1 := by
      by_cases z : S.1 17 5 = -1
      · rw [e7 z]
        omega
      · obtain ⟨b, hb⟩ : ∃ b : Nat, S.1 17 5 = (b : Int) := ⟨(S.1 17 5).toNat, by omega⟩
        rw [(e8 b hb).1]
        have := l4 b hb
        omega
    have hF := RDR_root (S2 := S1) (F := S1.1 (k + 4) (M + 1)) hR hL hG0 hz.2.1 hz.2.2.2.2 ⟨e2, e3, e4⟩ ⟨e5, rfl, e6⟩ ⟨e7, e8⟩ so (by rw [e11])
    obtain ⟨up, hu, lo, hlo⟩ := hU
    have hLf := LO_root hlo hu hR hG0
    have hUf := UP_root (S2 := S1) hu hR hG0 (fun b hb => so 4 b (by omega) (by omega) hb (by omega)) ⟨by rw [e3]; omega, lF.2⟩
    have hG := hR.2.1
    have gr : 0 ≠ R 0 := by
      have := ((hG 0 (Nat.le_refl _)).2.2 0 (Nat.le_refl _)).1
      rw [hG0] at this
      exact this
    have fφ : ∀ t, t < N → t ≠ 0 → t ≠ R 0 → clo N 0 G R t ∧ nup (nup φ (R 0) M) 0 (M + 1) t = φ t := fun t ht h0 hr => by
      refine ⟨⟨ht, ?_⟩, by rw [nup_ne h0, nup_ne hr]⟩
      rintro ⟨i, hi, z⟩
      obtain rfl : i = 0 := by omega
      rw [hG0] at z
      omega
    have f0 : nup (nup φ (R 0) M) 0 (M + 1) 0 = M + 1 := nup_eq
    have kR : T.1 625 (3840 + R 0) = 18 := ho.2.2.1.1
    generalize nup (nup φ (R 0) M) 0 (M + 1) = φ2 at *
    generalize nup (nup ψ (R 0) M) 0 (M + 1) = ψ2 at *
    generalize nup (nup own M (R 0)) (M + 1) 0 = own2 at *
    have hV := hz.2.2.2
    have pψ : ∀ m, m < N → ψ2 m < M + 2 := fun m hm => (node_C hF hL.2.2 hV.2 hm).1.2.1
    have e11' : S1.2.2.1 3 9 = k + 1 := by rw [e11]; exact h9
    have k11 : S1.1 k 11 = ((M + 2 : Nat) : Int) := by rw [e1]; rfl
    have h12 : S1.1 k 12 = T.1 636 12 := by
      rw [e10 _ _ (by omega) (by omega) (by omega) (by omega) (by omega) (by omega)]
      exact hg.1.1
    have hnm : ∀ l, l < 26 → S1.1 (k + 11) l = T.1 638 (312 + l) := fun l hl => by
      rw [e10 _ _ (by omega) (by omega) (by omega) (by omega) (by omega) (by omega)]
      exact (hg.2.1 l hl).1
    obtain ⟨T2, t1, t2⟩ := chk_R (Q := Q) (O := T) hR.1.1 (by omega) hV N Q 0 T (by omega) (by omega) (by omega) ⟨fun _ _ _ _ => rfl, fun m hm => absurd hm (Nat.not_lt_zero m), rfl, Or.inl ⟨h25, fun m hm => absurd hm (Nat.not_lt_zero m)⟩⟩
    have t264 : jm_264 Q T = some ((), T2) := by
      unfold jm_264
      rw [sp_232, sp_bd]
      exact t1
    have oi := ok_iff hF hUf hV h12 hnm
    have res := res_C (Q := Q) (O := S1) (M := M + 2) hk e11' k11 (by omega) (fun b hb h7 => by
      obtain ⟨m, q1, q2, q3, q4, q5, q6⟩ := tell_C hF hUf hV hb (Or.inl h7)
      have v := (hV.1 m q1).1.2.2.1 (q5.mp h7)
      rw [q4]
      omega) (M + 2) Q 0 S1 (by omega) (by omega) (by omega) ⟨fun _ _ _ => rfl, fun b hb => absurd hb (Nat.not_lt_zero b), rfl, fun b hb => absurd hb (Nat.not_lt_zero b)⟩
    have bit : (if T.1 621 31 = 1 then (0 : Int) else 1) = 0 := if_pos (by omega)
    rw [bit, rEnd_ok h25 t264]
    have cC : ∀ {A : Int} {S' : ev_St}, A = 0 ∨ A = 1 → jl_113_2 Q Q ((0 : Nat) : Int) S1 = some (A, S') → cE Q S = some (A, S') := fun {A S'} hA hr => by
      unfold cE
      rw [sp_b, hD, if_neg (fun z => z rfl), s1, sp_bd, if_neg (by decide)]
      unfold jm_113
      rw [show (0 : Int) = ((0 : Nat) : Int) from rfl, hr, sp_bd]
      rcases hA with z | z
      · rw [z]
        rfl
      · rw [z]
        rfl
    by_cases ok : ∀ m, m < N → okm T m
    · obtain ⟨S2, c2, c3⟩ := res.1 (oi.1.mpr ok)
      have t25 : T2.1 621 25 = 0 := by
        rcases t2.2.2.2 with z | z
        · exact z.1
        · exact absurd ok z.2
      have so2 : ∀ a g, a ≠ k + 2 → S2.1 a g = S1.1 a g := fun a g h => c2.1 a g (by omega)
      have to2 : ∀ a g, ¬ (a = 621 ∧ g = 25) → a ≠ 628 → T2.1 a g = T.1 a g := fun a g h1 h2 => t2.1 a g h1 (by omega)
      have hF2 := FIN_res hF hUf hV oi.2 c2 t2
      have hU2 := UPf_c (S2 := S2) (T2 := T2) hUf pψ (fun b hb => so2 _ _ (by omega)) (fun m c hm hc => to2 _ _ (by omega) (by omega))
      obtain ⟨hV2, k7⟩ := RV_res hV (fun l hl => ⟨(hg.2.1 l hl).2.1, by have := (hg.2.1 l hl).2.2; have := hg.1.2.2; omega⟩) ok t2
      have hL2 : LK2 N T2 := fun m hm h18 => by
        rw [to2 _ _ (by omega) (by omega)] at h18 ⊢
        exact hL.2.2 m hm h18
      have hC := CTR_of hF2 hU2 hL2 hV2.2 (by rw [so2 _ _ (by omega)]; exact k11) (by omega) (by omega)
      have hr := hr_of hF2 hU2 hL2 hV2
      obtain ⟨S3, z1, z2, z3, z4⟩ := tie_all (Q := Q) (O := S2) (by omega) hk hC hr (M + 2) Q 0 S2 (by omega) (by omega) (by omega) ⟨fun _ _ _ _ => rfl, rfl⟩ (fun b hb => absurd hb (Nat.not_lt_zero b)) (fun _ _ _ => rfl)
      have so3 : ∀ a g, a ≠ k + 2 → a ≠ k + 6 → a ≠ k + 7 → S3.1 a g = S1.1 a g := fun a g h1 h2 h3 => by rw [z2.1 a g h2 h3, so2 a g h1]
      have hr7 : S3.1 (k + 7) (φ2 0) = -1 := by
        have o0 : own2 (φ2 0) = 0 := hF2.2.1.2.2.1
        rw [z4 (k + 7) (φ2 0) (fun b hb h => by
          have := (hC.2.2.1 b hb).2
          rw [h, f0] at this
          omega) (fun b hb h => by
          have t : N - own2 (φ2 0) < N - own2 b := (hC.2.2.2.2.2.1 b (φ2 0) hb h).2.1
          rw [o0] at t
          omega) rfl, so2 _ _ (by omega), f0]
        exact e6b
      have hnr : nrc (Kn T2) N ≤ 151 := by
        rw [nrc_c (f := Kn T) (f' := Kn T2) N (fun m _ => to2 _ _ (by omega) (by omega))]
        have q1 := hc.2.2.2.2
        have q2 := hc.1.2.2
        omega
      have hT := TIE_of hF2 hU2 hL2 hV2 z3 z2 ⟨hr7, hnr⟩
      have hF3 := FIN_c (S2 := S3) (T2 := T2) hF2 (fun j b h1 h2 h3 => z2.1 _ _ (by omega) (by omega)) (fun j b h1 h2 => by rw [z2.2]) (fun _ _ _ _ _ => rfl) (fun _ _ _ _ => rfl)
      have hU3 := UPf_c (S2 := S3) (T2 := T2) hU2 pψ (fun b hb => z2.1 _ _ (by omega) (by omega)) (fun _ _ _ _ => rfl)
      have run : jl_113_2 Q Q ((0 : Nat) : Int) S1 = some (1, S3) := by
        rw [c3]
        unfold jm_67
        rw [show (0 : Int) = ((0 : Nat) : Int) from rfl, z1, sp_bd]
      have s14 : S3.1 3 14 = T.1 621 27 := by
        rw [so3 _ _ (by omega) (by omega) (by omega), e10 _ _ (by omega) (by omega) (by omega) (by omega) (by omega) (by omega)]
        exact hc.1.1
      have t27 : T2.1 621 27 = T.1 621 27 := to2 _ _ (by omega) (by omega)
      refine Or.inr ⟨S3, T2, N, M + 2, φ2, ψ2, own2, up, cC (Or.inr rfl) run, by rw [if_pos t25, t27, s14], ⟨⟨hF3, hU3, hL2, hV2, hT⟩, ⟨by rw [so3 _ _ (by omega) (by omega) (by omega)]; exact k11, by omega, by rw [to2 _ _ (by omega) (by omega)]; exact hR.1.1, by omega⟩, ?_, fun l hl => ?_, fun j h1 h2 => ?_, ?_, fun m hm => ?_, y, ?_, ?_, lo, LOf_c hLf (fun m c hm hc => to2 _ _ (by omega) (by omega))⟩, ⟨by rw [t27, s14], by rw [s14]; exact hc.1.2.1, by rw [s14]; exact hc.1.2.2⟩, fun x g hx => ?_, fun x g hx => ?_, fun c g z => ?_, fun c g x y z => by rw [t2.2.2.1]⟩
      · rw [so3 _ _ (by omega) (by omega) (by omega), to2 636 12 (by omega) (by omega)]
        exact ⟨h12, hg.1.2⟩
      · rw [so3 _ _ (by omega) (by omega) (by omega), to2 638 _ (by omega) (by omega), to2 636 12 (by omega) (by omega)]
        exact ⟨hnm l hl, (hg.2.1 l hl).2⟩
      · rw [to2 636 12 (by omega) (by omega)] at h2
        obtain ⟨t, q1, q2, q3, q4, q5⟩ := hg.2.2.1 j h1 h2
        have t0 : t ≠ 0 := fun e => by
          rw [e] at q3
          have := hz.2.1
          rw [show 3840 + 0 = 3840 from rfl] at q3
          omega
        have tR : t ≠ R 0 := fun e => by
          rw [e] at q3
          omega
        have q := fφ t q2 t0 tR
        refine ⟨t, by rw [to2 _ _ (by omega) (by omega), q1], q2, by rw [to2 _ _ (by omega) (by omega), q3], ?_, ?_⟩
        · rw [t2.2.1 t q2]
          unfold ckn
          rw [if_neg (fun z => by omega), q4]
        · rw [so3 _ _ (by omega) (by omega) (by omega), e10 _ _ (by omega) (by omega) (by omega) (by omega) (by omega) (by omega), q5 q.1, q.2]
      · rw [to2 637 120 (by omega) (by omega), so3 _ _ (by omega) (by omega) (by omega), e9, f0]
        exact ⟨hg.2.2.2.2.2, rfl⟩
      · rw [to2 625 _ (by omega) (by omega), to2 636 12 (by omega) (by omega)]
        refine ⟨fun z => k7 m hm z, fun z => ?_⟩
        rw [t2.2.1 m hm]
        exact (ok m hm).2 z
      · intro m hm h18 h0
        rw [to2 625 _ (by omega) (by omega)] at h18 ⊢
        exact hgh.2.1 m hm h18 h0
      · intro m t hm h18 hx
        rw [to2 625 _ (by omega) (by omega)] at h18 ⊢
        rw [to2 627 _ (by omega) (by omega)] at hx
        exact hgh.2.2.1 m t hm h18 hx
      · unfold KT0 at hx
        rw [so3 _ _ (by omega) (by omega) (by omega), e10 _ _ (by omega) (by omega) (by omega) (by omega) (by omega) (by omega)]
      · unfold KR0 at hx
        exact to2 _ _ (by omega) (by omega)
      · unfold LOWc at z
        exact t2.1 c g (by omega) (by omega)
    · obtain ⟨S', c1⟩ := res.2 (fun z => ok (oi.1.mp z))
      have t25 : T2.1 621 25 = 1 := by
        rcases t2.2.2.2 with z | z
        · exact absurd z.2 ok
        · exact z.1
      exact Or.inl ⟨S', T2, cC (Or.inl rfl) c1, by rw [if_neg (by omega)], fun c g z => by unfold LOWc at z; exact t2.1 c g (by omega) (by omega), fun c g x y z => by rw [t2.2.2.1]⟩
  · refine Or.inl ?_
    have c : ∃ S', cE Q S = some (0, S') := by
      refine ⟨S, ?_⟩
      unfold cE
      rw [sp_b, hD, if_pos (by omega)]
    obtain ⟨S', s1⟩ := c
    have bit : (if T.1 621 31 = 1 then (0 : Int) else 1) = 1 := if_neg (by omega)
    rw [bit]
    obtain ⟨T', t1, t2⟩ := rEnd_bad (Q := Q) (T := T) (x0 := 1) (Or.inr rfl) rfl
    exact ⟨S', T', s1, t1, t2⟩
end RFIN2
