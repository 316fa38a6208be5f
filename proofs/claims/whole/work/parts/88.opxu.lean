/-! RUNAWAY: all marks, and the parents -/
section OPXU
variable {Q k p N M m n g : Nat} {φ ψ own up : Nat → Nat} {S S0 T T0 U V : ev_St} {W : Nat → FV} {X : Nat → Int} {Mb : Nat → Prop} {Fv : Nat → Int} {a : Int}
def lfI (p : Nat) (T0 : ev_St) (a : Int) (m : Nat) : Int := if T0.1 625 (320 * p + m) = 0 then rs (T0.2.1 633 (320 * p + m)) (T0.2.1 634 (320 * p + m)) a else 0
def JQ (p N : Nat) (T0 : ev_St) (a : Int) (Fv : Nat → Int) : Prop := ∀ m, m < N → Fv m = endI (T0.1 625 (320 * p + m)) (chl (X0 p T0) (stI p T0 (T0.1 625 (320 * p + m)) Fv) 320 (T0.1 626 (320 * p + m)) (lfI p T0 a m, 0, 0))
theorem rs_01 {x y : Int64} : rs x y a = 1 ∨ rs x y a = 0 := by
  unfold rs
  exact if01
theorem run280 (hp : p < 12) (hN : N ≤ 320) (hQ : 400 ≤ Q) (ha : sp_sign a = 1) (hch : CHN p N T0) (hF : JQ p N T0 a Fv) : ∀ (i q : Nat) (U : ev_St), i < q → i ≤ N → AG0 p T0 U → (∀ t, i ≤ t → t < N → U.1 658 t = Fv t) → ∃ V, jl_280_16 Q a q (320 * (p : Int)) ((i : Int) - 1) U = some ((), V) ∧ (∀ t, t < N → V.1 658 t = Fv t) ∧ (∀ c i, c ≠ 658 → V.1 c i = U.1 c i) ∧ V.2 = U.2 := fun i => by
  obtain ⟨l25, l26, l27, l28, _, l30, l31, l32, l33, l34, _⟩ := al_K
  induction i with
  | zero =>
    intro q U hq _ hU hm
    obtain ⟨q, rfl⟩ : ∃ r, q = r + 1 := ⟨q - 1, by omega⟩
    refine ⟨U, ?_, fun t ht => hm t (Nat.zero_le t) ht, fun _ _ _ => rfl, rfl⟩
    show jb_280_16 Q _ _ _ _ U = _
    unfold jb_280_16
    rw [if_pos (by omega)]
  | succ m ih =>
    intro q U hq hm hU hmk
    obtain ⟨q, rfl⟩ : ∃ r, q = r + 1 := ⟨q - 1, by omega⟩
    have mN : m < N := by omega
    obtain ⟨Mb, hX, hc, hMb⟩ := hch m mN
    have e25 := hU.1 625 m (by omega) (by omega)
    have e26 := hU.1 626 m (by omega) (by omega)
    have e33 := hU.2.1 633 m (by omega) (by omega) (by omega)
    have e34 := hU.2.1 634 m (by omega) (by omega) (by omega)
    have st : ∀ JJ : Int → Int → ev_St → Option (Unit × ev_St), ev_jn JJ (fun K63 => ev_jn (fun (x191 : Int) (s198 : ev_St) => K63 x191 0 s198) fun K62 => if U.1 625 (320 * p + m) ≠ 0 then (K62 ((320 * p + m : Nat) : Int) U) else (ev_if ((0 : Int) ≤ ((320 * p + m : Nat) : Int) ∧ ((320 * p + m : Nat) : Int) < (ev_aln 633 : Int)) (ev_b (U.2.1 633 (320 * p + m)) fun y200 => ev_if ((0 : Int) ≤ ((320 * p + m : Nat) : Int) ∧ ((320 * p + m : Nat) : Int) < (ev_aln 634 : Int)) (ev_b (U.2.1 634 (320 * p + m)) fun y201 => ev_bd (jm_244 Q y200 y201 a U) fun x203 s202 => if x203 = 0 then (K62 ((320 * p + m : Nat) : Int) s202) else (K63 ((320 * p + m : Nat) : Int) 1 s202))))) = JJ ((320 * p + m : Nat) : Int) (lfI p T0 a m) U := fun JJ => by
      unfold lfI
      rw [sp_jn, sp_jn, e25]
      by_cases y : T0.1 625 (320 * p + m) = 0
      · rw [if_neg (fun z => z y), if_pos y, sp_if (by rw [l33]; omega), sp_b, sp_if (by rw [l34]; omega), sp_b, sp_244 ha, sp_bd, e33, e34]
        rcases rs_01 (a := a) (x := T0.2.1 633 (320 * p + m)) (y := T0.2.1 634 (320 * p + m)) with w | w
        · rw [w, if_neg (by decide)]
        · rw [w, if_pos rfl]
      · rw [if_pos y, if_neg y]
    have lf01 : lfI p T0 a m = 0 ∨ lfI p T0 a m = 1 := by
      unfold lfI
      rcases rs_01 (a := a) (x := T0.2.1 633 (320 * p + m)) (y := T0.2.1 634 (320 * p + m)) with w | w
      · split <;> omega
      · split <;> omega
    have r := in280 (Q := Q) (a := a) (K16 := jl_280_16 Q a q) (Fv := Fv) hp hX hN mN hU (fun _ _ => rfl) hMb (fun t t1 t2 => hmk t (by omega) t2) 320 0 Q (T0.1 626 (320 * p + m)) (lfI p T0 a m, 0, 0) (by omega) (by omega) hc lf01 ⟨by show (0 : Int) ≤ 0; omega, by show (0 : Int) + ((320 : Nat) : Int) ≤ 1000; omega⟩
    rw [← hF m mN] at r
    obtain ⟨V, s1, s2, s3, s4⟩ := ih q (ev_pI U 658 m (Fv m)) (by omega) (by omega) ⟨fun c i y1 y2 => by rw [rd_nk (by omega)]; exact hU.1 c i y1 y2, hU.2.1, by rw [rd_nk (by decide)]; exact hU.2.2⟩ (fun t t1 t3 => by
      by_cases e : t = m
      · rw [e, rd_eq]
      · rw [rd_nf e]
        exact hmk t (by omega) t3)
    refine ⟨V, ?_, s2, fun c i y => by rw [s3 c i y, rd_nk y], s4⟩
    rw [← s1, ← r]
    show jb_280_16 Q _ _ _ _ U = _
    unfold jb_280_16
    rw [show ((m + 1 : Nat) : Int) - 1 = (m : Int) from by omega, if_neg (by omega), sp_ck (by omega), show 320 * (p : Int) + (m : Int) = ((320 * p + m : Nat) : Int) from by omega, sp_if (by rw [l25]; omega), sp_b, Int.toNat_natCast, st]
    try dsimp only
    rw [sp_if (by rw [l26]; omega), sp_b, Int.toNat_natCast, e26]
theorem in283 {x4 : Nat} {K15 : Int → Int → ev_St → Option (Unit × ev_St)} (hp : p < 12) (hX : mbX N X Mb) (hN : N ≤ 320) (hx : x4 < 320) (hXT : ∀ t, Mb t → X t = T0.1 627 (320 * p + t)) : ∀ (n b0 q : Nat) (c : Int) (U : ev_St), AG0 p T0 U → n < q → N ≤ b0 + n → mbc Mb b0 c → ∃ V, jl_283_35 Q (p : Int) (320 * (p : Int)) (x4 : Int) K15 q c U = K15 (320 * (p : Int)) ((x4 : Int) + 1) V ∧ (∀ t, t ∈ lstC X n c → V.1 659 t = (x4 : Int)) ∧ (∀ t, t ∉ lstC X n c → V.1 659 t = U.1 659 t) ∧ (∀ c i, c ≠ 659 → V.1 c i = U.1 c i) ∧ V.2 = U.2 := fun n => by
  obtain ⟨l25, l26, l27, l28, _, l30, l31, l32, l33, l34, _⟩ := al_K
  obtain ⟨_, l59⟩ := al658
  have stop : ∀ (q : Nat) (U : ev_St), 0 < q → jl_283_35 Q (p : Int) (320 * (p : Int)) (x4 : Int) K15 q (-1) U = K15 (320 * (p : Int)) ((x4 : Int) + 1) U := fun q U hq => by
    obtain ⟨q, rfl⟩ : ∃ r, q = r + 1 := ⟨q - 1, by omega⟩
    show jb_283_35 Q _ _ _ _ _ _ U = _
    unfold jb_283_35
    rw [if_pos rfl, sp_ck (by omega)]
  induction n with
  | zero =>
    intro b0 q c U hU hq hb hc
    rcases hc with z | ⟨u, z, z1, z2⟩
    · rw [z]
      exact ⟨U, stop q U hq, (fun t h => by cases h), fun _ _ => rfl, fun _ _ _ => rfl, rfl⟩
    · have := (hX u z2).1
      omega
  | succ n ih =>
    intro b0 q c U hU hq hb hc
    rcases hc with z | ⟨u, z, z1, z2⟩
    · rw [z, lst_0 rfl]
      exact ⟨U, stop q U (by omega), (fun t h => by cases h), fun _ _ => rfl, fun _ _ _ => rfl, rfl⟩
    · obtain ⟨q, rfl⟩ : ∃ r, q = r + 1 := ⟨q - 1, by omega⟩
      have uN := (hX u z2).1
      have e27 := hU.1 627 u (by omega) (by omega)
      have ex := hXT u z2
      rw [z, lst_s]
      have hU2 : AG0 p T0 (ev_pI U 659 u (x4 : Int)) := ⟨fun c i y1 y2 => by rw [rd_nk (by omega)]; exact hU.1 c i y1 y2, hU.2.1, by rw [rd_nk (by decide)]; exact hU.2.2⟩
      obtain ⟨V, r1, r2, r3, r4, r5⟩ := ih (b0 + 1) q (X u) (ev_pI U 659 u (x4 : Int)) hU2 (by omega) (by omega) (mbc_n hX z2 z1)
      refine ⟨V, ?_, fun t ht => ?_, fun t ht => ?_, fun c i y => by rw [r4 c i y, rd_nk y], r5⟩
      · rw [← r1]
        show jb_283_35 Q _ _ _ _ _ _ U = _
        unfold jb_283_35
        rw [if_neg (by omega), sp_if (by rw [l59]; omega), sp_b, Int.toNat_natCast, sp_ck (by omega), sp_if (by rw [l27]; omega), sp_b, rd_nk (by decide), show (320 * (p : Int) + (u : Int)).toNat = 320 * p + u from by omega, e27, ← ex]
      · by_cases y : t ∈ lstC X n (X u)
        · exact r2 t y
        · rw [r3 t y]
          rcases List.mem_cons.mp ht with w | w
          · rw [w, rd_eq]
          · exact absurd w y
      · rw [r3 t (fun y => ht (List.mem_cons_of_mem _ y)), rd_nf (fun y => ht (by rw [y]; exact List.mem_cons_self))]
theorem run283 (hp : p < 12) (hQ : 400 ≤ Q) (hF : FINX k N M φ ψ own up S0 (sft p T0)) : ∀ (r q i : Nat) (U : ev_St), r < q → i + r = N → AG0 p T0 U → (∀ t, t < N → t ≠ 0 → up t < i → U.1 659 t = (up t : Int)) → U.1 659 0 = -1 → ∃ V, jl_283_15 Q (p : Int) q (320 * (p : Int)) (i : Int) U = some ((), V) ∧ (∀ t, t < N → t ≠ 0 → V.1 659 t = (up t : Int)) ∧ V.1 659 0 = -1 ∧ (∀ c i, c ≠ 659 → V.1 c i = U.1 c i) ∧ V.2 = U.2 := fun r => by
  have h := TREE_of hF
  have hN : N ≤ 320 := hF.2.1.2.2.2
  obtain ⟨l25, l26, l27, l28, _, l30, l31, l32, l33, l34, l35, _⟩ := al_K
  have eX : tX (sft p T0) = X0 p T0 := funext fun t => sft_1 (by omega) (by omega)
  have n35 : ∀ U, AG0 p T0 U → U.1 635 p = (N : Int) := fun U hU => by
    have q := hF.2.1.2.2.1
    rw [sft_5 (Or.inl rfl)] at q
    rw [hU.2.2]
    exact q
  induction r with
  | zero =>
    intro q i U hq hi hU h1 h2
    obtain ⟨q, rfl⟩ : ∃ r, q = r + 1 := ⟨q - 1, by omega⟩
    refine ⟨U, ?_, fun t ht h0 => h1 t ht h0 (by have := UP_lt hF ht h0 rfl; omega), h2, fun _ _ _ => rfl, rfl⟩
    show jb_283_15 Q _ _ _ _ U = _
    unfold jb_283_15
    rw [sp_if (by rw [l35]; omega), sp_b, Int.toNat_natCast, n35 U hU, if_pos (by omega)]
  | succ r ih =>
    intro q i U hq hi hU h1 h2
    obtain ⟨q, rfl⟩ : ∃ r, q = r + 1 := ⟨q - 1, by omega⟩
    have iN : i < N := by omega
    have eC : tC (sft p T0) i = T0.1 626 (320 * p + i) := sft_1 (by omega) (by omega)
    have e26 := hU.1 626 i (by omega) (by omega)
    have hc := Kid_C h iN
    rw [eC] at hc
    have hX := Kid_X h (m := i)
    obtain ⟨V, r1, r2, r3, r4, r5⟩ := in283 (Q := Q) (x4 := i) (K15 := jl_283_15 Q (p : Int) q) hp hX hN (by omega) (fun t _ => by rw [eX]) 320 0 Q (T0.1 626 (320 * p + i)) U hU (by omega) (by omega) hc
    have hV : AG0 p T0 V := AG0_c hU (fun c i y _ => r4 c i (by omega)) (fun c i _ => by rw [r5])
    have n0 : (0 : Nat) ∉ lstC (tX (sft p T0)) 320 (T0.1 626 (320 * p + i)) := fun y => (lst_mb hX 320 0 _ hc 0 y).2.1 rfl
    obtain ⟨V2, s1, s2, s3, s4, s5⟩ := ih q (i + 1) V (by omega) (by omega) hV (fun t ht h0 hu => by
      by_cases e : up t = i
      · have kd : Kid N up (sft p T0) i t := ⟨ht, h0, e, PAR hF t t (Nat.le_refl _) ht h0 e⟩
        have q := kid_in hF iN t t (Nat.le_refl _) kd
        rw [eC] at q
        rw [r2 t q, e]
      · by_cases y : t ∈ lstC (tX (sft p T0)) 320 (T0.1 626 (320 * p + i))
        · exact absurd (lst_mb hX 320 0 _ hc t y).2.2.1 e
        · rw [r3 t y]
          exact h1 t ht h0 (by omega)) (by rw [r3 0 n0]; exact h2)
    refine ⟨V2, ?_, s2, s3, fun c i y => by rw [s4 c i y, r4 c i y], by rw [s5, r5]⟩
    rw [← s1, show ((i + 1 : Nat) : Int) = (i : Int) + 1 from by omega, ← r1]
    show jb_283_15 Q _ _ _ _ U = _
    unfold jb_283_15
    rw [sp_if (by rw [l35]; omega), sp_b, Int.toNat_natCast, n35 U hU, if_neg (by omega), sp_ck (by omega), show 320 * (p : Int) + (i : Int) = ((320 * p + i : Nat) : Int) from by omega, sp_if (by rw [l26]; omega), sp_b, Int.toNat_natCast, e26]
theorem sp_283 (hp : p < 12) (hQ : 400 ≤ Q) (hF : FINX k N M φ ψ own up S0 (sft p T0)) (hU : AG0 p T0 U) : ∃ V, jm_283 Q (p : Int) U = some ((), V) ∧ (∀ t, t < N → t ≠ 0 → V.1 659 t = (up t : Int)) ∧ V.1 659 0 = -1 ∧ (∀ c i, c ≠ 659 → V.1 c i = U.1 c i) ∧ V.2 = U.2 := by
  obtain ⟨_, l59⟩ := al658
  have hN : N ≤ 320 := hF.2.1.2.2.2
  have hU2 : AG0 p T0 (ev_pI U 659 0 (-1)) := ⟨fun c i y1 y2 => by rw [rd_nk (by omega)]; exact hU.1 c i y1 y2, hU.2.1, by rw [rd_nk (by decide)]; exact hU.2.2⟩
  obtain ⟨V, r1, r2, r3, r4, r5⟩ := run283 (Q := Q) hp hQ hF N Q 0 (ev_pI U 659 0 (-1)) (by omega) (by omega) hU2 (fun t _ _ z => absurd z (by omega)) rd_eq
  refine ⟨V, ?_, r2, r3, fun c i y => by rw [r4 c i y, rd_nk y], r5⟩
  unfold jm_283
  rw [sp_ck (by omega), sp_if (by rw [l59]; omega), sp_b]
  exact r1
end OPXU
