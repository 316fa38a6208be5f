/-! PROGRAMS: the class's program is the root's code -/
section PROG10
variable {Q k g b e N M m t p o : Nat} {φ ψ own up lo : Nat → Nat} {S S0 T U V W : ev_St} {CA CI Lt : Nat → List INS}
theorem run71 (hF : FINX k N M φ ψ own up S (sft p T)) (hL : LOf N M φ ψ up lo (sft p T)) (hk : ev_isOb k 5 = true) (hkr : 232 ≤ k) (hgk : g = k + 12) (hg : al5 g) (hQ : 500 ≤ Q) (hq : ∀ m, m < N → FQ (320 * p) T m) (hok : ∀ m, m < N → okR (320 * p + m) T) (hC : CDQ k N φ S (sft p T) CA CI) (hv : NVI k N φ ψ up (sft p T) 0 S0) (h643 : T.1 643 (320 * p) ≤ 200) (hS0 : (∀ x i, x ≠ 229 → ¬ (x = g ∧ i = 5) → S0.1 x i = S.1 x i) ∧ S0.2.1 = S.2.1) : ∀ (r q b : Nat) (U : ev_St) (Lt : Nat → List INS), r < q → b + r = M → WR g N φ ψ lo (sft p T) S0 CA CI b U Lt → ∃ V Lt2, jl_71_32 Q g (k + 1) (228 + 1) (229 + 1) q (M : Int) (b : Int) U = (ev_bd (jm_76 Q g 6 0 ((Int64.ofNat ((0 : Fin 2) : Nat))) ((Int64.ofNat ((0 : Fin 2) : Nat))) V) fun _ s22 => ev_bd (jm_79 Q g s22) fun _ s23 => some ((), s23)) ∧ WR g N φ ψ lo (sft p T) S0 CA CI M V Lt2
  | r, 0, b, U, Lt, h, _, _ => by omega
  | 0, q + 1, b, U, Lt, _, hb, hw => by
    obtain rfl : b = M := by omega
    refine ⟨U, Lt, ?_, hw⟩
    show jb_71_32 Q _ _ _ _ _ _ _ U = _
    unfold jb_71_32
    rw [if_pos (Int.le_refl _)]
  | r + 1, q + 1, b, U, Lt, hqr, hb, hw => by
    obtain ⟨V1, L2, a1, a2⟩ := write_b (Q := Q) (b := b) hF hL hk hkr hgk hg hQ hq hok hC hv h643 hS0 (by omega) hw
    obtain ⟨V, Lt2, c1, c2⟩ := run71 hF hL hk hkr hgk hg hQ hq hok hC hv h643 hS0 r q (b + 1) V1 _ (by omega) (by omega) a2
    refine ⟨V, Lt2, ?_, c2⟩
    rw [← c1]
    show jb_71_32 Q _ _ _ _ _ _ _ U = _
    rw [a1, show (b : Int) + 1 = ((b + 1 : Nat) : Int) from by omega]
/-- what the class's writing may change -/
def FRz (g : Nat) (S U : ev_St) : Prop := (∀ x i, ¬ ((x = g ∧ i = 5) ∨ x = g + 1 ∨ x = g + 2 ∨ x = 228 ∨ x = 229) → U.1 x i = S.1 x i) ∧ (∀ x i, x ≠ g + 3 → x ≠ g + 4 → U.2.1 x i = S.2.1 x i) ∧ U.2.2 = S.2.2
theorem prog_C (hF : FINX k N M φ ψ own up S (sft p T)) (hk : ev_isOb k 5 = true) (hkr : 232 ≤ k) (hgk : g = k + 12) (hg : al5 g) (hQ : 500 ≤ Q) (hq : ∀ m, m < N → FQ (320 * p) T m) (hok : ∀ m, m < N → okR (320 * p + m) T) (hC : CDQ k N φ S (sft p T) CA CI) (h643 : T.1 643 (320 * p) ≤ 200) : ∃ V, jm_71 Q g (k + 1) (228 + 1) (229 + 1) S = (ev_bd (jm_79 Q g V) fun _ s23 => some ((), s23)) ∧ FRz g S V ∧ PL g V (CA 0 ++ [ins 6 0]) ∧ (CA 0).length ≤ 200 := by
  have hF0 := hF
  obtain ⟨_, _, _, _, _, _, _, y, _, _, lo, hL⟩ := hF0
  have h := TREE_of hF
  have hM : M ≤ 400 := hF.2.1.2.1
  have hN0 : 0 < N := hF.1.1.2.2.1
  obtain ⟨l28, l29⟩ := al228
  have eR : ∀ m, tR (sft p T) m = T.1 630 (320 * p + m) := fun m => sft_1 (by omega) (by omega)
  obtain ⟨V0, v1, v2, v3, v4⟩ := sp_72 (Q := Q) (g := g) hF hk hkr hQ (fun m hm => by rw [eR]; exact (hok m hm).2.1)
  obtain ⟨S0, hS⟩ : ∃ S0, S0 = ev_pI V0 g 5 0 := ⟨_, rfl⟩
  have s1 : ∀ x i, ¬ (x = g ∧ i = 5) → S0.1 x i = V0.1 x i := fun x i z => by rw [hS, sp_pI1, if_neg z]
  have s2 : S0.2 = V0.2 := by rw [hS]; rfl
  have nv : NVI k N φ ψ up (sft p T) 0 S0 := by
    unfold NVI at v4 ⊢
    have e : ∀ j, S0.1 229 j = V0.1 229 j := fun j => s1 229 j (by omega)
    simp only [e]
    exact v4
  have hS0 : (∀ x i, x ≠ 229 → ¬ (x = g ∧ i = 5) → S0.1 x i = S.1 x i) ∧ S0.2.1 = S.2.1 := ⟨fun x i z1 z2 => (s1 x i z2).trans (v2 x i z1), by rw [s2, v3]⟩
  obtain ⟨V1, Lt, r1, r2⟩ := run71 (Q := Q) (S0 := S0) hF hL hk hkr hgk hg hQ hq hok hC nv h643 hS0 M Q 0 S0 (fun _ => []) (by omega) (by omega) ⟨⟨⟨fun _ _ _ => rfl, fun _ _ _ _ => rfl, rfl⟩, ⟨by rw [hS, rd_eq]; rfl, by show 0 ≤ 208; omega, fun i x hx => by cases hx⟩, rfl⟩, fun m hm => ⟨fun _ z => absurd z (Nat.not_lt_zero _), fun _ z => absurd z (Nat.not_lt_zero _)⟩⟩
  obtain ⟨⟨f1, f2, f3⟩, fa⟩ := r2
  have K0 : tK (sft p T) 0 = 9 := hF.1.1.2.2.2.1
  have root := ((fa 0 hN0).1 (by rw [K0]; decide) (by have := hL.1.2; omega)).1
  rw [hL.1.2, hL.1.1, f3, List.nil_append] at root
  unfold AtQ at root
  rw [if_neg (fun z => z nv.2.2)] at root
  rw [root] at f2
  have len : ((CA 0).length : Int) ≤ 200 := by
    have sz := (SZ_all hF hq hok hC N 0 hN0 (by omega)).2 (by rw [Nat.add_zero]; exact h643)
    have ci := (hC 0 hN0).2.2.2.2.2.1 hF.1.1.2.2.2.2.2.2
    rw [ci, Nat.add_zero] at sz
    omega
  obtain ⟨V, w1, w2, w3⟩ := PL_add (Q := Q) (a := 6) (b := 0) (c := Int64.ofNat ((0 : Fin 2) : Nat)) (d := Int64.ofNat ((0 : Fin 2) : Nat)) hg f2 (by omega)
  refine ⟨V, ?_, ⟨fun x i z => ?_, fun x i z1 z2 => ?_, ?_⟩, w2, by omega⟩
  · unfold jm_71
    have im : ev_imin (M : Int) (ev_imin 400 400) = (M : Int) := by
      have i0 : ev_imin 400 400 = 400 := by
        rw [sp_imin2 (by omega) (by omega), if_neg (by omega)]
      rw [i0, sp_imin2 (by omega) (by omega)]
      split <;> omega
    rw [sp_if (by omega), show k + 1 - 1 = k from rfl, sp_b, hF.2.1.1, sp_if (by omega), show (228 + 1 - 1 : Nat) = 228 from rfl, l28, sp_b, sp_if (by omega), show (229 + 1 - 1 : Nat) = 229 from rfl, l29, sp_b, sp_b, sp_b]
    rw [show ((400 : Nat) : Int) = 400 from rfl, im, v1, sp_bd, sp_b, ← hS]
    refine Eq.trans r1 ?_
    rw [w1, sp_bd]
  · rw [w3.1 x i (by omega), f1.1 x i (by omega), hS0.1 x i (by omega) (by omega)]
  · rw [w3.2.1 x i z1 z2, f1.2.1 x i z1 z2, hS0.2]
  · rw [w3.2.2, f1.2.2, s2, v3]
end PROG10
