/-! THE READER: the loop -/
section RLOOP2
variable {Q k n m w d N M D lv t : Nat} {φ ψ own inn G R ws y rk : Nat → Nat} {P : Nat → Int} {S T S0 T0 S1 S' S2 T' T2 T1 T3 U : ev_St} {Z Z2 : Nat → Prop}
def rdr (f : Nat → Int) : Nat → Int
  | 0 => f 0
  | i + 1 => rdr f i + f (i + 1)
theorem rdr_le {f g : Nat → Int} : ∀ n, (∀ i, i ≤ n → f i ≤ g i) → rdr f n ≤ rdr g n := fun n => by
  induction n with
  | zero => exact fun h => h 0 (Nat.le_refl _)
  | succ n ih =>
    intro h
    have a := ih fun i hi => h i (by omega)
    have b := h (n + 1) (Nat.le_refl _)
    show rdr f n + f (n + 1) ≤ rdr g n + g (n + 1)
    omega
theorem rdr_lt {f g : Nat → Int} {d : Int} : ∀ n, (∀ i, i < n → f i ≤ g i) → f n + d ≤ g n → rdr f n + d ≤ rdr g n := fun n => by
  cases n with
  | zero => exact fun _ h => h
  | succ n =>
    intro h1 h2
    have a := rdr_le n fun i hi => h1 i (by omega)
    show rdr f n + f (n + 1) + d ≤ rdr g n + g (n + 1)
    omega
theorem rdr_0 {f : Nat → Int} : ∀ n, (∀ i, i ≤ n → 0 ≤ f i) → 0 ≤ rdr f n := fun n => by
  induction n with
  | zero => exact fun h => h 0 (Nat.le_refl _)
  | succ n ih =>
    intro h
    have a := ih fun i hi => h i (by omega)
    have b := h (n + 1) (Nat.le_refl _)
    show 0 ≤ rdr f n + f (n + 1)
    omega
def RM (lv : Nat) (ws : Nat → Nat) (S T : ev_St) : Int := rdr (fun i => S.1 (ws i) 1 - T.1 645 i) lv + (lv : Int) + (150 - T.1 621 27) * 122
def KR0 (x g : Nat) : Prop := (x = 621 ∧ (g = 1 ∨ g = 26)) ∨ (622 ≤ x ∧ x ≤ 624) ∨ (x = 644 ∧ g = 0)
def FRx (S T S' T' : ev_St) : Prop := (∀ x g, KT0 x g → S'.1 x g = S.1 x g) ∧ (∀ x g, KR0 x g → T'.1 x g = T.1 x g) ∧ LOW T T'
theorem FRx_t (h : FRx S T S1 T1) (h2 : FRx S1 T1 S' T') : FRx S T S' T' := ⟨fun x g z => (h2.1 x g z).trans (h.1 x g z), fun x g z => (h2.2.1 x g z).trans (h.2.1 x g z), LOW_t h.2.2 h2.2.2⟩
def RES (k Q : Nat) (w0 : Nat) (rk : Nat → Nat) (S T : ev_St) (A B : Option (Int × ev_St)) : Prop := (∃ S' T', A = some (0, S') ∧ B = some (-1, T') ∧ LOW T T') ∨ ∃ ws' Z' S' T', RIa k 0 ws' S' T' ∧ INC 0 ws' Z' rk S' T' ∧ ws' 0 = w0 ∧ S'.1 (ws' 0) 1 ≤ T'.1 645 0 ∧ FRx S T S' T' ∧ A = cE Q S' ∧ B = rEnd Q (if T'.1 621 31 = 1 then 0 else 1) T'
theorem RES_t {w0 : Nat} {A B : Option (Int × ev_St)} (h : FRx S T S1 T1) (h2 : RES k Q w0 rk S1 T1 A B) : RES k Q w0 rk S T A B := by
  rcases h2 with ⟨S', T', z1, z2, z3⟩ | ⟨ws', Z', S', T', a, b, c, d, e, f⟩
  · exact Or.inl ⟨S', T', z1, z2, LOW_t h.2.2 z3⟩
  · exact Or.inr ⟨ws', Z', S', T', a, b, c, d, FRx_t h e, f⟩
theorem rd_loop {w0 : Nat} (hQ : 400 ≤ Q) (hk : ev_isOb k 5 = true) (hkr : 232 ≤ k) : ∀ (μ lv : Nat) (ws : Nat → Nat) (Z : Nat → Prop) (S T : ev_St) (q q' : Nat) (x : Int), RIa k lv ws S T → INC lv ws Z rk S T → RKP rk S → ws 0 = w0 → RM lv ws S T ≤ (μ : Int) → μ + 1 < q → μ + 1 < q' → 0 ≤ x → x + (μ : Int) < 100000 → RES k Q w0 rk S T (jl_83_59 Q q x S) (jl_265_114 Q q' T) := fun μ => by
  induction μ with
  | zero =>
    intro lv ws Z S T q q' x h hI hr hw hm hq hq' hx hx2
    obtain ⟨q, rfl⟩ : ∃ z, q = z + 1 := ⟨q - 1, by omega⟩
    obtain ⟨q', rfl⟩ : ∃ z, q' = z + 1 := ⟨q' - 1, by omega⟩
    have h' := h
    obtain ⟨N, M, D, φ, ψ, own, inn, G, R, P, qq, y, H⟩ := h'
    have ht := H.1.2.1
    obtain ⟨n1, n2, n3, n4, n5, n6⟩ := RIy_n H.1
    have hl := fun i hi => (ht.2.2.2.1 i hi).2
    have p0 := ht.2.2.2.1 lv (Nat.le_refl _)
    have h120 := (LV_tx ht.1 ht.2.1 p0.1).2.2.1
    have h25 := H.1.2.2.2.2.2.2.2
    have r0 := rdr_0 (f := fun i => S.1 (ws i) 1 - T.1 645 i) lv (fun i hi => by have := hl i hi; show 0 ≤ S.1 (ws i) 1 - T.1 645 i; omega)
    unfold RM at hm
    have hlv : lv = 0 := by omega
    subst hlv
    have hov : S.1 (ws 0) 1 ≤ T.1 645 0 := by
      have z : rdr (fun i => S.1 (ws i) 1 - T.1 645 i) 0 = S.1 (ws 0) 1 - T.1 645 0 := rfl
      omega
    have tC := turn_C (Q := Q) (q := q) (x := x) ht rfl ⟨hx, by omega⟩
    have tR := turn_R (Q := Q) (q := q') ht h25 rfl (by omega)
    exact Or.inr ⟨ws, Z, S, T, h, hI, hw, hov, ⟨fun _ _ _ => rfl, fun _ _ _ => rfl, LOW_r⟩, tC.2.2 hov rfl, tR.2.2 hov rfl⟩
  | succ μ ih =>
    intro lv ws Z S T q q' x h hI hr hw hm hq hq' hx hx2
    obtain ⟨q, rfl⟩ : ∃ z, q = z + 1 := ⟨q - 1, by omega⟩
    obtain ⟨q', rfl⟩ : ∃ z, q' = z + 2 := ⟨q' - 2, by omega⟩
    have h' := h
    obtain ⟨N, M, D, φ, ψ, own, inn, G, R, P, qq, y, H⟩ := h'
    have ht := H.1.2.1
    obtain ⟨n1, n2, n3, n4, n5, n6⟩ := RIy_n H.1
    have hl := fun i hi => (ht.2.2.2.1 i hi).2
    have p0 := ht.2.2.2.1 lv (Nat.le_refl _)
    have h120 := (LV_tx ht.1 ht.2.1 p0.1).2.2.1
    have h25 := H.1.2.2.2.2.2.2.2
    obtain ⟨p, hp⟩ : ∃ p, T.1 645 lv = p := ⟨_, rfl⟩
    have tC := turn_C (Q := Q) (q := q) (x := x) ht hp ⟨hx, by omega⟩
    have tR := turn_R (Q := Q) (q := q' + 1) ht h25 hp (by omega)
    have txw : ∀ i, i ≤ lv → isTy (ws i) := fun i hi => LV_ty (ht.2.2.2.1 i hi).1
    unfold RM at hm
    by_cases hov : p < S.1 (ws lv) 1
    · have ne := at_ne (p := p) ht (by omega)
      by_cases hin : sp_at S (ws lv) p = 40 ∧ sp_at S (ws lv) (p + 1) = 63 ∧ sp_at S (ws lv) (p + 2) = 38
      · have st := fun (l : Nat) (hl : l < 26) (hi : sp_at S (ws lv) (p + 3) = 97 + (l : Int)) => INC_st ht hI hr (by rw [hp]; exact ne) hl (show icl (sp_at S (ws lv)) (T.1 645 lv) l from by rw [hp]; exact ⟨hin.1, hin.2.1, hin.2.2, hi⟩)
        rcases tk_inc (Q := Q) hQ hk hkr H hp hin.1 hin.2.1 hin.2.2 (by have := INC_lv ht hI; omega) (fun l a b c e => (st l a e).2) with ⟨S', T', a1, a2, a3⟩ | ⟨S', T', l, a1, a2, a3, a4, a5, a6, a7, ⟨b1, b2, b3, b4, b5, b6⟩, a8, a9⟩
        · obtain ⟨T2, c1, c2⟩ := turn_bad (Q := Q) (q := q') a3
          exact Or.inl ⟨S', T2, (tC.1 hov).1 S' a1, (tR.1 hov T' a2).trans c1, LOW_t (lw_tok H.1 a2) c2⟩
        · have nxe : nx (sp_at S (ws lv)) p = p + 5 := by
            rw [show nx (sp_at S (ws lv)) p = nxb (sp_at S (ws lv)) p from if_pos hin.1]
            unfold nxb
            rw [hin.2.1, hin.2.2, if_neg (by decide), if_neg (by decide), if_neg (by decide), if_neg (by decide), if_pos (by decide)]
          have hf : ∀ x g, KT0 x g → S'.1 x g = S.1 x g := fun x g z => b6 x g (by unfold KT0 at z; unfold KTs; omega) (by unfold KT0 at z; omega) (by unfold KT0 at z; omega)
          have hI2 := INC_inc (l := l) (T' := T') ht hI hf (by rw [b1, hp, nxe]) b2 b3 (b5 _ _ (Or.inl ⟨rfl, by omega⟩) (by omega) (by omega)) (fun i hi => b5 _ _ (Or.inr (Or.inr rfl)) (by omega) (by omega)) b4 a1 a3 a4 (by rw [hp]; exact ⟨hin.1, hin.2.1, hin.2.2, a2⟩) ((st l a1 a2).1)
          have hfx : FRx S T S' T' := ⟨hf, fun x g z => b5 x g (by unfold KR0 at z; unfold KTt; omega) (by unfold KR0 at z; omega) (by unfold KR0 at z; omega), a9⟩
          rw [(tC.1 hov).2 S' a5, tR.1 hov T' a6]
          refine RES_t hfx (ih (lv + 1) _ _ S' T' q (q' + 1) (x + 1) a7 hI2 (RKP_c hf hr) (by rw [nup_ne (by omega)]; exact hw) ?_ (by omega) (by omega) (by omega) (by omega))
          have e1 : rdr (fun i => S'.1 (nup ws (lv + 1) (169 + 2 * l) i) 1 - T'.1 645 i) lv + 5 ≤ rdr (fun i => S.1 (ws i) 1 - T.1 645 i) lv := by
            refine rdr_lt lv (fun i hi => ?_) ?_
            · show S'.1 (nup ws (lv + 1) (169 + 2 * l) i) 1 - T'.1 645 i ≤ S.1 (ws i) 1 - T.1 645 i
              rw [nup_ne (by omega), b3 i (by omega) (by omega), (sp_atT hf (txw i (by omega))).2]
              exact Int.le_refl _
            · show S'.1 (nup ws (lv + 1) (169 + 2 * l) lv) 1 - T'.1 645 lv + 5 ≤ S.1 (ws lv) 1 - T.1 645 lv
              rw [nup_ne (by omega), b1, (sp_atT hf (txw lv (by omega))).2]
              omega
          have e2 : S'.1 (169 + 2 * l) 1 ≤ 120 := by
            rw [(sp_atT hf (isTx_l a1)).2]
            rcases ht.2.1 l a1 with ⟨z, _⟩ | ⟨_, z, _⟩
            · omega
            · exact z.2
          unfold RM
          show rdr (fun i => S'.1 (nup ws (lv + 1) (169 + 2 * l) i) 1 - T'.1 645 i) lv + (S'.1 (nup ws (lv + 1) (169 + 2 * l) (lv + 1)) 1 - T'.1 645 (lv + 1)) + ((lv + 1 : Nat) : Int) + (150 - T'.1 621 27) * 122 ≤ _
          rw [nup_eq, b2]
          omega
      · have tk := tk_all (Q := Q) hQ hk hkr h (by rw [hp]; exact ne) (by rw [hp]; exact hin)
        rw [hp] at tk
        rcases tk with ⟨S', T', a1, a2, a3⟩ | ⟨S', T', a1, a2, a3, b1, b2, b3, b4, b5, b6, b7⟩
        · obtain ⟨T2, c1, c2⟩ := turn_bad (Q := Q) (q := q') a3
          exact Or.inl ⟨S', T2, (tC.1 hov).1 S' a1, (tR.1 hov T' a2).trans c1, LOW_t (lw_tok H.1 a2) c2⟩
        · have hf : ∀ x g, KT0 x g → S'.1 x g = S.1 x g := fun x g z => b4 x g (by unfold KT0 at z; unfold KTs; omega)
          have hI2 := INC_tok (T' := T') ht hI hf (by rw [b1, hp]) b2 (b3 _ _ (Or.inl ⟨rfl, by omega⟩)) (fun i => b3 _ _ (Or.inr (Or.inr rfl))) (fun l _ z => hin (by rw [hp] at z; exact ⟨z.1, z.2.1, z.2.2.1⟩))
          have hfx : FRx S T S' T' := ⟨hf, fun x g z => b3 x g (by unfold KR0 at z; unfold KTt; omega), b7⟩
          rw [(tC.1 hov).2 S' a1, tR.1 hov T' a2]
          refine RES_t hfx (ih lv _ _ S' T' q (q' + 1) (x + 1) a3 hI2 (RKP_c hf hr) hw ?_ (by omega) (by omega) (by omega) (by omega))
          have gt := @nx_gt (sp_at S (ws lv)) p
          have e1 : rdr (fun i => S'.1 (ws i) 1 - T'.1 645 i) lv + 1 ≤ rdr (fun i => S.1 (ws i) 1 - T.1 645 i) lv := by
            refine rdr_lt lv (fun i hi => ?_) ?_
            · show S'.1 (ws i) 1 - T'.1 645 i ≤ S.1 (ws i) 1 - T.1 645 i
              rw [b2 i (by omega), (sp_atT hf (txw i (by omega))).2]
              exact Int.le_refl _
            · show S'.1 (ws lv) 1 - T'.1 645 lv + 1 ≤ S.1 (ws lv) 1 - T.1 645 lv
              rw [b1, (sp_atT hf (txw lv (by omega))).2]
              omega
          unfold RM
          omega
    · cases lv with
      | zero => exact Or.inr ⟨ws, Z, S, T, h, hI, hw, by omega, ⟨fun _ _ _ => rfl, fun _ _ _ => rfl, LOW_r⟩, tC.2.2 (by omega) rfl, tR.2.2 (by omega) rfl⟩
      | succ lv =>
        rcases tk_end (Q := Q) hk hkr H with ⟨S', T', a1, a2, a3, a4⟩ | ⟨S', T', a1, a2, a3, b1, b2, b3, b4, b5, b6⟩
        · obtain ⟨T2, c1, c2⟩ := turn_bad (Q := Q) (q := q') a3
          exact Or.inl ⟨S', T2, (tC.2.1 (by omega) (by omega)).1 S' a1, (tR.2.1 (by omega) (by omega) T' a2).trans c1, LOW_t a4 c2⟩
        · have hf : ∀ x g, KT0 x g → S'.1 x g = S.1 x g := fun x g z => b3 x g (by unfold KT0 at z; unfold KTs; omega) (by unfold KT0 at z; omega)
          have hI2 := INC_end (T' := T') ht hI hf b1 (b2 _ _ (Or.inl ⟨rfl, by omega⟩) (by omega)) (fun i => b2 _ _ (Or.inr (Or.inr rfl)) (by omega)) (by omega)
          have hfx : FRx S T S' T' := ⟨hf, fun x g z => b2 x g (by unfold KR0 at z; unfold KTt; omega) (by unfold KR0 at z; omega), b6⟩
          rw [(tC.2.1 (by omega) (by omega)).2 S' a1, tR.2.1 (by omega) (by omega) T' a2]
          refine RES_t hfx (ih lv _ _ S' T' q (q' + 1) (x + 1) a3 hI2 (RKP_c hf hr) hw ?_ (by omega) (by omega) (by omega) (by omega))
          have e1 : rdr (fun i => S'.1 (ws i) 1 - T'.1 645 i) lv ≤ rdr (fun i => S.1 (ws i) 1 - T.1 645 i) lv := by
            refine rdr_le lv (fun i hi => ?_)
            show S'.1 (ws i) 1 - T'.1 645 i ≤ S.1 (ws i) 1 - T.1 645 i
            rw [b1, (sp_atT hf (txw i (by omega))).2]
            exact Int.le_refl _
          have e2 : rdr (fun i => S.1 (ws i) 1 - T.1 645 i) (lv + 1) = rdr (fun i => S.1 (ws i) 1 - T.1 645 i) lv + (S.1 (ws (lv + 1)) 1 - T.1 645 (lv + 1)) := rfl
          have e3 := hl (lv + 1) (Nat.le_refl _)
          rw [e2] at hm
          unfold RM
          rw [b5]
          omega
end RLOOP2
