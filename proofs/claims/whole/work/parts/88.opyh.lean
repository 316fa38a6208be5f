/-! LITERAL: both walks come to the same -/
section OPYH
variable {Q k p N M m n u t L j : Nat} {xs : Nat → Int32} {φ ψ own up lo : Nat → Nat} {S S0 S2 T0 U V : ev_St} {a : Int}
theorem itemF (hF : FINX k N M φ ψ own up S0 (sft p T0)) (hL : LOf N M φ ψ up lo (sft p T0)) (hm : m < N) (h0 : m ≠ 0) (h18 : T0.1 625 (320 * p + m) ≠ 18) : lo m ≤ φ m ∧ φ m ≤ ψ m ∧ ψ m + 2 ≤ φ (up (up m)) ∧ (T0.1 630 (320 * p + m) = 2 → φ m + 3 ≤ ψ m) ∧ (T0.1 627 (320 * p + m) = -1 ∨ ∃ t : Nat, T0.1 627 (320 * p + m) = (t : Int) ∧ t < N ∧ t ≠ 0 ∧ T0.1 625 (320 * p + t) ≠ 18 ∧ up t = up m ∧ lo t = ψ m + 1) := by
  have h := TREE_of hF
  have hN0 : 0 < N := hF.1.1.2.2.1
  have eK : ∀ m, tK (sft p T0) m = T0.1 625 (320 * p + m) := fun m => sft_1 (by omega) (by omega)
  have eX : ∀ m, tX (sft p T0) m = T0.1 627 (320 * p + m) := fun m => sft_1 (by omega) (by omega)
  have eR : tR (sft p T0) m = T0.1 630 (320 * p + m) := sft_1 (by omega) (by omega)
  have ll := lo_le hF hL N m hm (by omega)
  obtain ⟨a0, a1, a2, a3, a4, a5, a6⟩ := hL
  have u1 := h.2.2.2.2.2.1 m hm h0
  have upN : up m < N := by have := UP_lt hF hm h0 rfl; omega
  have k18 : tK (sft p T0) (up m) = 18 := by
    have w := PAR hF m m (Nat.le_refl _) hm h0 rfl
    exact Classical.byContradiction fun z => by
      have := w.mpr z
      rw [eK] at this
      exact h18 this
  have up0 : up m ≠ 0 := fun z => by
    rw [z] at k18
    rcases FINX_K hF hN0 with ⟨_, y | y⟩
    · omega
    · exact y.1 rfl
  have u2 := h.2.2.2.2.2.1 (up m) upN up0
  have f1 : φ (up m) = ψ (up m) := ((h.2.2.1 (up m) upN up0).2 k18).2
  have q5 := a5 m hm
  have r2 : T0.1 630 (320 * p + m) = 2 → φ m + 3 ≤ ψ m := fun z => by
    rcases h.2.2.2.2.2.2.2.2 m hm with ⟨y, _⟩ | ⟨⟨y, _⟩, _⟩ | ⟨⟨y, _⟩, _⟩
    · have y' : tR (sft p T0) m = -1 := y
      omega
    · have y' : tR (sft p T0) m = 0 ∨ tR (sft p T0) m = 1 := y
      omega
    · obtain ⟨x, y', e1, e2⟩ := TREE_2 h hm y
      have := (TREE_r h hm).2 y x y' e1 e2
      omega
  refine ⟨ll, by omega, by omega, r2, ?_⟩
  rcases h.2.2.2.2.1 m hm with y | ⟨t, t1, t2, t3, t4, t5⟩
  · exact Or.inl ((eX m).symm.trans y)
  · refine Or.inr ⟨t, (eX m).symm.trans t1, t3, by omega, ?_, t4, (a3 m t hm t1).1⟩
    rw [← eK]
    intro z
    have := t5.mp z
    rw [eK] at this
    exact h18 this
theorem simW (hF : FINX k N M φ ψ own up S0 (sft p T0)) (hL : LOf N M φ ψ up lo (sft p T0)) (hp : p < 12) (hQ : 400 ≤ Q) (ha0 : 0 ≤ a) : ∀ n : Nat, (∀ (m u : Nat) (rs : List Nat) (U : ev_St) (run best : List Int) (pos st q : Nat), m < N → m ≠ 0 → T0.1 625 (320 * p + m) ≠ 18 → up (up m) = u → OSo N p up T0 (u :: rs) → STo p T0 U (u :: rs) → AG0 p T0 U → RBo U pos st run best → pos ≤ cntI (Kn (sft p T0)) ψ (lo m) N → 2 * M ≤ n + (rs.length + 1) + 2 * lo m → n + 2 ≤ q → ∃ V, lwJ9 Q a p q ((lngr run best).length : Int) (st : Int) (pos : Int) (run.length : Int) ((rs.length + 1 : Nat) : Int) (m : Int) U = some (getA a (litF k M S0 n (4 * (ψ m : Int)) run best), V) ∧ (∀ c i, c ≠ 660 → c ≠ 661 → V.1 c i = U.1 c i) ∧ V.2 = U.2) ∧ (∀ (u : Nat) (rs : List Nat) (U : ev_St) (run best : List Int) (pos st q : Nat), OSo N p up T0 (u :: rs) → STo p T0 U (u :: rs) → AG0 p T0 U → RBo U pos st run best → pos ≤ cntI (Kn (sft p T0)) ψ (φ u) N → 2 * M ≤ n + (rs.length + 1) + 2 * φ u → n + 2 ≤ q → ∃ V, lwJ9 Q a p q ((lngr run best).length : Int) (st : Int) (pos : Int) (run.length : Int) ((rs.length + 1 : Nat) : Int) (-1) U = some (getA a (litF k M S0 n (4 * (φ u : Int) + 1) run best), V) ∧ (∀ c i, c ≠ 660 → c ≠ 661 → V.1 c i = U.1 c i) ∧ V.2 = U.2) := fun n => by
  have h := TREE_of hF
  have hN : N ≤ 320 := hF.2.1.2.2.2
  have hN0 : 0 < N := hF.1.1.2.2.1
  have hM : M ≤ 400 := hF.2.1.2.1
  have n151 : nrc (Kn (sft p T0)) N ≤ 151 := by
    obtain ⟨_, _, _, _, _, i6⟩ := hF.1.2.2.2.2
    exact i6
  have eKn : ∀ m, Kn (sft p T0) m = T0.1 625 (320 * p + m) := fun m => sft_1 (by omega) (by omega)
  have eK : ∀ m, tK (sft p T0) m = T0.1 625 (320 * p + m) := fun m => sft_1 (by omega) (by omega)
  have eC : ∀ m, tC (sft p T0) m = T0.1 626 (320 * p + m) := fun m => sft_1 (by omega) (by omega)
  have c151 : ∀ x, cntI (Kn (sft p T0)) ψ x N ≤ 151 := fun x => Nat.le_trans (cnt_le N) n151
  have root : opN p T0 0 → T0.1 625 (320 * p + 0) = 9 ∧ T0.1 630 (320 * p + 0) = -1 := fun o => by
    refine ⟨?_, o.2.1⟩
    rw [← eK]
    rcases FINX_K hF hN0 with ⟨_, y | y⟩
    · exact y.2.1
    · exact absurd rfl y.1
  induction n using Nat.strongRecOn with
  | _ n ih =>
    -- behind a node
    have nxt : ∀ n', n' < n → ∀ (m u : Nat) (rs : List Nat) (U : ev_St) (run best : List Int) (pos st q : Nat), m < N → m ≠ 0 → T0.1 625 (320 * p + m) ≠ 18 → up (up m) = u → OSo N p up T0 (u :: rs) → STo p T0 U (u :: rs) → AG0 p T0 U → RBo U pos st run best → pos ≤ cntI (Kn (sft p T0)) ψ (ψ m + 1) N → 2 * M ≤ n' + (rs.length + 1) + 2 * (ψ m + 1) → n' + 2 ≤ q → ∃ V, lwJ9 Q a p q ((lngr run best).length : Int) (st : Int) (pos : Int) (run.length : Int) ((rs.length + 1 : Nat) : Int) (T0.1 627 (320 * p + m)) U = some (getA a (litF k M S0 n' (nxtN p φ ψ up T0 m) run best), V) ∧ (∀ c i, c ≠ 660 → c ≠ 661 → V.1 c i = U.1 c i) ∧ V.2 = U.2 := fun n' hn' m u rs U run best pos st q m1 m2 m3 m4 m5 m6 m7 m8 m9 m10 m11 => by
      obtain ⟨f1, f2, f3, f4, f5⟩ := itemF hF hL m1 m2 m3
      rw [m4] at f3
      unfold nxtN
      rcases f5 with y | ⟨t, t1, t2, t3, t4, t5, t6⟩
      · rw [if_pos y, y, m4]
        exact (ih n' hn').2 u rs U run best pos st q m5 m6 m7 m8 (Nat.le_trans m9 (cnt_mono (by omega) N)) (by omega) m11
      · rw [t1, if_neg (by omega), Int.toNat_natCast]
        exact (ih n' hn').1 t u rs U run best pos st q t2 t3 t4 (by rw [t5]; exact m4) m5 m6 m7 m8 (by rw [t6]; exact m9) (by rw [t6]; omega) m11
    refine ⟨fun m u rs U run best pos st q m1 m2 m3 m4 m5 m6 m7 m8 m9 m10 m11 => ?_, fun u rs U run best pos st q m5 m6 m7 m8 m9 m10 m11 => ?_⟩
    · obtain ⟨f1, f2, f3, f4, f5⟩ := itemF hF hL m1 m2 m3
      rw [m4] at f3
      obtain ⟨g1, g2⟩ := OS_phi hF hL rs u m5
      obtain ⟨w1, w2, w3⟩ := nodeW hF m1 m2 m3
      have cm := c151 (lo m)
      have pos151 : pos ≤ 151 := by omega
      obtain ⟨q, rfl⟩ : ∃ r, q = r + 1 := ⟨q - 1, by omega⟩
      have hcr : T0.1 625 (320 * p + m) = 8 ∨ T0.1 625 (320 * p + m) = 9 ∨ T0.1 625 (320 * p + m) = 10 → ∃ t : Nat, T0.1 626 (320 * p + m) = (t : Int) ∧ t < 320 := fun z => by
        rcases h.2.2.2.1 m m1 with y | ⟨t, t1, t2, t3, _⟩
        · exfalso
          have q := (hF.1.2.2.2.1.2 m m1).2.2.2 (by show tK (sft p T0) m ≠ 18; rw [eK]; exact m3)
          exact (q.mpr (by rw [show (sft p T0).1 625 (3840 + m) = T0.1 625 (320 * p + m) from eK m]; omega)) y
        · exact ⟨t, (eC m).symm.trans t1, by omega⟩
      by_cases ho : opN p T0 m
      · -- gone into
        obtain ⟨t, t1, t2, t3, t4, t5, t6, t7⟩ := w2 ho
        obtain ⟨n, rfl⟩ : ∃ r, n = r + 1 := ⟨n - 1, by omega⟩
        have ro := r_open (Q := Q) (q := q) (B := ((lngr run best).length : Int)) (st := (st : Int)) (pos := (pos : Int)) (r := (run.length : Int)) (a := a) (d := rs.length + 1) hp (by omega) (by omega) m7 ho t1 (by omega)
        obtain ⟨U2, hU2⟩ : ∃ U2, U2 = ev_pI U 660 (rs.length + 1) (T0.1 627 (320 * p + m)) := ⟨_, rfl⟩
        rw [← hU2] at ro
        have u2 : ∀ c i, ¬ (c = 660 ∧ i = rs.length + 1) → U2.1 c i = U.1 c i := fun c i y => by rw [hU2, sp_pI1, if_neg y]
        have ag : AG0 p T0 U2 := AG0_c m7 (fun c i y _ => u2 c i (by omega)) (fun c i _ => by rw [hU2]; rfl)
        have os : OSo N p up T0 (m :: u :: rs) := ⟨⟨m1, m2, ho, m4⟩, m5⟩
        have sto : STo p T0 U2 (m :: u :: rs) := ⟨by rw [hU2]; exact rd_eq, STo_c (u :: rs) (fun i hi => u2 660 i (by rw [List.length_cons] at hi; omega)) m6⟩
        have rb : RBo U2 pos st run best := ⟨⟨m8.1.1, fun i hi => by rw [u2 _ _ (by omega)]; exact m8.1.2 i hi⟩, m8.2.1, fun i hi => by rw [u2 _ _ (by omega)]; exact m8.2.2 i hi⟩
        have e2 : U2.2 = U.2 := by rw [hU2]; rfl
        obtain ⟨_, a1, a2, a3, a4, a5, a6⟩ := hL
        have lt := (a2 m t m1 (by show tC (sft p T0) m = _; rw [eC]; exact t1)).1
        rw [ro, t7]
        have fin : ∀ {W : Option (Int × ev_St)} {w : Int}, (∃ V, W = some (w, V) ∧ (∀ c i, c ≠ 660 → c ≠ 661 → V.1 c i = U2.1 c i) ∧ V.2 = U2.2) → ∃ V, W = some (w, V) ∧ (∀ c i, c ≠ 660 → c ≠ 661 → V.1 c i = U.1 c i) ∧ V.2 = U.2 := fun {W w} ⟨V, v1, v2, v3⟩ => ⟨V, v1, fun c i y1 y2 => by rw [v2 c i y1 y2, u2 c i (by omega)], by rw [v3, e2]⟩
        by_cases y : T0.1 626 (320 * p + t) = -1
        · rw [if_pos y, y]
          exact fin ((ih n (by omega)).2 m (u :: rs) U2 run best pos st q os sto ag rb (Nat.le_trans m9 (cnt_mono f1 N)) (by rw [List.length_cons]; omega) (by omega))
        · obtain ⟨t', z1, z2, z3, z4, z5⟩ := (h.2.2.2.1 t t2).resolve_left (by rw [eC]; exact y)
          have lt' := (a2 t t' t2 z1).1
          rw [eC] at z1
          rw [if_neg y, z1, Int.toNat_natCast]
          exact fin ((ih n (by omega)).1 t' m (u :: rs) U2 run best pos st q z3 (by omega) (by
            intro w
            have := z5.mp (by rw [eK]; exact w)
            rw [eK] at this
            exact this t5) (by rw [z4, t4]) os sto ag rb (by rw [lt', lt]; exact m9) (by rw [lt', lt, List.length_cons]; omega) (by omega))
      · -- a node by itself
        have step : ∀ (s : Int) (P2 : Nat) (run2 best2 : List Int) (st2 j : Nat), (T0.1 625 (320 * p + m) = 0 ∧ T0.1 630 (320 * p + m) = -1 → jm_278 Q ((320 * p + m : Nat) : Int) U = some (s, U)) → (¬ (T0.1 625 (320 * p + m) = 0 ∧ T0.1 630 (320 * p + m) = -1) → s = -1) → ((P2 : Int) = if s ≠ -1 then (pos : Int) + 1 else (pos : Int)) → ((run2.length : Int) = if s ≠ -1 then (run.length : Int) + 1 else 0) → ((lngr run2 best2).length : Int) = (if (run2.length : Int) ≤ ((lngr run best).length : Int) then ((lngr run best).length : Int) else (run2.length : Int)) → (st2 : Int) = (if (run2.length : Int) ≤ ((lngr run best).length : Int) then (st : Int) else (P2 : Int) - (run2.length : Int)) → RBo (ev_pI U 661 pos s) P2 st2 run2 best2 → (j = 1 ∨ (j = 3 ∧ T0.1 630 (320 * p + m) = 2)) → (∀ n, litF k M S0 (n + j) (4 * (ψ m : Int)) run best = litF k M S0 n (nxtN p φ ψ up T0 m) run2 best2) → ∃ V, lwJ9 Q a p (q + 1) ((lngr run best).length : Int) (st : Int) (pos : Int) (run.length : Int) ((rs.length + 1 : Nat) : Int) (m : Int) U = some (getA a (litF k M S0 n (4 * (ψ m : Int)) run best), V) ∧ (∀ c i, c ≠ 660 → c ≠ 661 → V.1 c i = U.1 c i) ∧ V.2 = U.2 := fun s P2 run2 best2 st2 j y1 y2 y3 y4 y5 y6 y7 y8 y9 => by
          have jn : j ≤ n := by
            rcases y8 with z | ⟨z, z2⟩
            · omega
            · have := f4 z2
              omega
          obtain ⟨n', hn'⟩ : ∃ n', n = n' + j := ⟨n - j, by omega⟩
          have rn := r_node (Q := Q) (q := q) (B := ((lngr run best).length : Int)) (st := (st : Int)) (pos := (pos : Int)) (r := (run.length : Int)) (a := a) (d := rs.length + 1) hp (by omega) m7 ho hcr y1 y2 (by omega) ⟨by omega, by have := m8.1.1; omega⟩ y3 y4
          rw [← y5, ← y6, Int.toNat_natCast] at rn
          obtain ⟨U2, hU2⟩ : ∃ U2, U2 = ev_pI U 661 pos s := ⟨_, rfl⟩
          rw [← hU2] at rn y7
          have u2 : ∀ c i, ¬ (c = 661 ∧ i = pos) → U2.1 c i = U.1 c i := fun c i y => by rw [hU2, sp_pI1, if_neg y]
          have ag : AG0 p T0 U2 := AG0_c m7 (fun c i y _ => u2 c i (by omega)) (fun c i _ => by rw [hU2]; rfl)
          have sto : STo p T0 U2 (u :: rs) := STo_c (u :: rs) (fun i hi => u2 660 i (by omega)) m6
          have e2 : U2.2 = U.2 := by rw [hU2]; rfl
          have cs1 : cntI (Kn (sft p T0)) ψ (lo m) N + 1 ≤ cntI (Kn (sft p T0)) ψ (ψ m + 1) N := cnt_str (j := m) (by omega) (by rw [eKn]; exact m3) (by omega) (by omega) N m1
          have p2 : P2 ≤ pos + 1 := by
            by_cases z : s ≠ -1
            · rw [if_pos z] at y3
              omega
            · rw [if_neg z] at y3
              omega
          obtain ⟨V, v1, v2, v3⟩ := nxt n' (by omega) m u rs U2 run2 best2 P2 st2 q m1 m2 m3 m4 m5 sto ag y7 (by omega) (by
            rcases y8 with z | ⟨z, z2⟩
            · omega
            · have := f4 z2
              omega) (by omega)
          refine ⟨V, ?_, fun c i z1 z2 => by rw [v2 c i z1 z2, u2 c i (by omega)], by rw [v3, e2]⟩
          rw [rn, hn', y9]
          exact v1
        have none : (T0.1 625 (320 * p + m) = 0 ∧ T0.1 630 (320 * p + m) = -1 → jm_278 Q ((320 * p + m : Nat) : Int) U = some (-1, U)) → ¬ (T0.1 630 (320 * p + m) = -1 ∧ T0.1 625 (320 * p + m) = 0 ∧ bcC (S0.2.1 (k + 8) (φ m)) + bcC (S0.2.1 (k + 9) (φ m)) = 1) → ∃ V, lwJ9 Q a p (q + 1) ((lngr run best).length : Int) (st : Int) (pos : Int) (run.length : Int) ((rs.length + 1 : Nat) : Int) (m : Int) U = some (getA a (litF k M S0 n (4 * (ψ m : Int)) run best), V) ∧ (∀ c i, c ≠ 660 → c ≠ 661 → V.1 c i = U.1 c i) ∧ V.2 = U.2 := fun y1 y2 => by
          obtain ⟨j, j1, j2⟩ := w3 ho y2
          have e : lngr [] (lngr run best) = lngr run best := if_neg (Nat.not_lt_zero _)
          have l0 : (([] : List Int).length : Int) = 0 := rfl
          exact step (-1) pos [] (lngr run best) st j y1 (fun _ => rfl) (by rw [if_neg (fun z => z rfl)]) (by rw [if_neg (fun z => z rfl)]; rfl) (by rw [e, if_pos (by rw [l0]; omega)]) (by rw [if_pos (by rw [l0]; omega)]) (RB_none m8) j1 (fun n => j2 n run best)
        by_cases hz : T0.1 625 (320 * p + m) = 0 ∧ T0.1 630 (320 * p + m) = -1
        · have kd := (hF.1.1.1 m m1 m2).2.1.2.1 (by rw [show (sft p T0).1 625 (3840 + m) = T0.1 625 (320 * p + m) from eK m]; exact hz.1)
          rw [sft_L (by decide) (by decide), sft_L (by decide) (by decide)] at kd
          have s278 := sp_278 (Q := Q) (U := U) (g := 320 * p + m) hQ (by omega) (by
            rw [m7.2.1 633 m (by omega) (by omega) (by omega), m7.2.1 634 m (by omega) (by omega) (by omega)]
            exact kd.1) kd.2
          by_cases one : bcC (S0.2.1 (k + 8) (φ m)) + bcC (S0.2.1 (k + 9) (φ m)) = 1
          · rw [if_pos one] at s278
            have ge : 0 ≤ lowC (S0.2.1 (k + 8) (φ m)) (S0.2.1 (k + 9) (φ m)) 128 0 := by
              rw [bc_cz] at one
              exact lowC_ge 128 0 (by omega)
            obtain ⟨s, hs⟩ : ∃ s, s = lowC (S0.2.1 (k + 8) (φ m)) (S0.2.1 (k + 9) (φ m)) 128 0 := ⟨_, rfl⟩
            rw [← hs] at s278 ge
            have ns : s ≠ -1 := by omega
            have ar : addR run s = run ++ [s] := by
              unfold addR
              rw [if_pos (by have := m8.1.1; omega)]
            obtain ⟨st2, b1, b2, b3⟩ := RB_sign (s := s) m8
            have l1 : ((run ++ [s]).length : Int) = (run.length : Int) + 1 := by
              rw [List.length_append]
              rfl
            exact step s (pos + 1) (run ++ [s]) best st2 1 (fun _ => s278) (fun z => absurd hz z) (by rw [if_pos ns]; omega) (by rw [if_pos ns, l1]) (by rw [b2, l1]) (by rw [b1, l1, show ((pos + 1 : Nat) : Int) = (pos : Int) + 1 from by omega]) b3 (Or.inl rfl) (fun n => by rw [w1 hz.2 ho ⟨hz.1, one⟩, ← hs, ar])
          · rw [if_neg one] at s278
            exact none (fun _ => s278) (fun z => one z.2.2)
        · exact none (fun z => absurd z hz) (fun z => hz ⟨z.2.1, z.1⟩)
    · -- a part ends
      obtain ⟨g1, g2⟩ := OS_phi hF hL rs u m5
      obtain ⟨n, rfl⟩ : ∃ r, n = r + 1 := ⟨n - 1, by omega⟩
      obtain ⟨q, rfl⟩ : ∃ r, q = r + 1 := ⟨q - 1, by omega⟩
      have rp := r_pop (Q := Q) (p := p) (q := q) (B := ((lngr run best).length : Int)) (st := (st : Int)) (pos := (pos : Int)) (r := (run.length : Int)) (a := a) (U := U) (d := rs.length) (by omega)
      rw [rp, m6.1]
      cases rs with
      | nil =>
        have u0 : u = 0 := m5
        subst u0
        have k9 : T0.1 625 (320 * p + 0) = 9 := by
          rw [← eK]
          rcases FINX_K hF hN0 with ⟨_, y | y⟩
          · exact y.2.1
          · exact absurd rfl y.1
        have r0 : T0.1 630 (320 * p + 0) = -1 := by
          have y : (sft p T0).1 630 (3840 + 0) = -1 := hF.1.1.2.2.2.2.2.2
          rw [sft_1 (by decide) (by decide)] at y
          exact y
        have x0 : T0.1 627 (320 * p + 0) = -1 := by
          have y : (sft p T0).1 627 (3840 + 0) = -1 := hF.1.1.2.2.2.2.2.1
          rw [sft_1 (by decide) (by decide)] at y
          exact y
        obtain ⟨q, rfl⟩ : ∃ r, q = r + 1 := ⟨q - 1, by omega⟩
        have c151' := c151 (φ 0)
        rw [x0, show (([] : List Nat).length : Int) = 0 from rfl, r_fin ha0 ⟨by omega, by have := m8.2.1; omega⟩, leaveW hF hN0 (Or.inr (Or.inl k9)) r0, if_pos rfl, litF_0]
        refine ⟨U, ?_, fun _ _ _ _ => rfl, rfl⟩
        unfold getA
        by_cases y : a < ((lngr run best).length : Int)
        · rw [if_pos y, if_pos y, show ((st : Int) + a).toNat = st + a.toNat from by omega, m8.2.2 a.toNat (by omega)]
        · rw [if_neg y, if_neg y]
      | cons v r =>
        obtain ⟨⟨h1, h2, h3, h4⟩, h5⟩ := m5
        have u18 : T0.1 625 (320 * p + u) ≠ 18 := by
          have := h3.1
          omega
        rw [leaveW hF h1 h3.1 h3.2.1, if_neg h2]
        have psi : ψ u = φ u := by
          rcases h.2.2.2.2.2.2.2.2 u h1 with ⟨_, y⟩ | ⟨⟨y, _⟩, _⟩ | ⟨⟨y, _⟩, _⟩
          · exact y
          · have y' : tR (sft p T0) u = 0 ∨ tR (sft p T0) u = 1 := y
            rw [show tR (sft p T0) u = T0.1 630 (320 * p + u) from sft_1 (by omega) (by omega)] at y'
            have := h3.2.1
            omega
          · have y' : tR (sft p T0) u = 2 := y
            rw [show tR (sft p T0) u = T0.1 630 (320 * p + u) from sft_1 (by omega) (by omega)] at y'
            have := h3.2.1
            omega
        rw [List.length_cons] at m10 ⊢
        exact nxt n (by omega) u v r U run best pos st q h1 h2 u18 h4 h5 m6.2 m7 m8 (Nat.le_trans m9 (cnt_mono (by omega) N)) (by rw [psi]; omega) (by omega)
end OPYH
