/-! LITERAL: the class's walk, node by node -/
section OPYF
variable {Q k p N M m n b t u : Nat} {φ ψ own up lo : Nat → Nat} {S S0 T0 U : ev_St} {run best : List Int}
theorem code_d : ∀ x : Fin 400, (ev_ishr (4 * ((x.1 : Nat) : Int)) 2 = ((x.1 : Nat) : Int) ∧ ev_iand (4 * ((x.1 : Nat) : Int)) 3 = 0) ∧ ev_ishr (4 * ((x.1 : Nat) : Int) + 1) 2 = ((x.1 : Nat) : Int) ∧ ev_iand (4 * ((x.1 : Nat) : Int) + 1) 3 = 1 := by decide +kernel
abbrev opE (k M : Nat) (S : ev_St) (b : Nat) : Prop := (17 ≤ S.1 (k + 1) b ∧ S.1 (k + 1) b ≤ 19) ∧ 0 ≤ onlyC k M S (b : Int)
theorem litF_e (hb : b < M) (hM : M ≤ 400) : (oneC k S (b : Int) → ¬ opE k M S b → litF k M S (n + 1) (4 * (b : Int)) run best = litF k M S n (S.1 (k + 7) b) (addR run (lowC (S.2.1 (k + 8) b) (S.2.1 (k + 9) b) 128 0)) best) ∧ (¬ oneC k S (b : Int) → opE k M S b → litF k M S (n + 1) (4 * (b : Int)) run best = litF k M S n (S.1 (k + 6) b) run best) ∧ (¬ oneC k S (b : Int) → ¬ opE k M S b → litF k M S (n + 1) (4 * (b : Int)) run best = litF k M S n (S.1 (k + 7) b) [] (lngr run best)) := by
  obtain ⟨⟨c1, c2⟩, _⟩ := code_d ⟨b, by omega⟩
  have c1' : ev_ishr (4 * (b : Int)) 2 = (b : Int) := c1
  have c2' : ev_iand (4 * (b : Int)) 3 = 0 := c2
  have hv : litV M (b : Int) := ⟨by omega, by omega, by omega⟩
  have st : litF k M S (n + 1) (4 * (b : Int)) run best = (if litV M (ev_ishr (4 * (b : Int)) 2) then (if oneC k S (ev_ishr (4 * (b : Int)) 2) then litF k M S n (nxC k M S (4 * (b : Int))) (addR run (lowC (S.2.1 (k + 8) (ev_ishr (4 * (b : Int)) 2).toNat) (S.2.1 (k + 9) (ev_ishr (4 * (b : Int)) 2).toNat) 128 0)) best else if ev_iand (4 * (b : Int)) 3 = 0 ∧ ¬ opC k M S (4 * (b : Int)) then litF k M S n (nxC k M S (4 * (b : Int))) [] (lngr run best) else litF k M S n (nxC k M S (4 * (b : Int))) run best) else lngr run best) := rfl
  have oe : opC k M S (4 * (b : Int)) ↔ opE k M S b := by
    show ((17 ≤ S.1 (k + 1) (ev_ishr (4 * (b : Int)) 2).toNat ∧ S.1 (k + 1) (ev_ishr (4 * (b : Int)) 2).toNat ≤ 19) ∧ 0 ≤ onlyC k M S (ev_ishr (4 * (b : Int)) 2)) ↔ _
    rw [c1', Int.toNat_natCast]
  have nx : nxC k M S (4 * (b : Int)) = if opE k M S b then S.1 (k + 6) b else S.1 (k + 7) b := by
    unfold nxC
    by_cases y : opE k M S b
    · rw [if_pos y, if_pos ⟨c2', oe.mpr y⟩, c1', Int.toNat_natCast]
    · rw [if_neg y, if_neg (fun z => y (oe.mp z.2)), c1', Int.toNat_natCast]
  have hv' : litV M (ev_ishr (4 * (b : Int)) 2) := by
    rw [c1']
    exact hv
  have on : oneC k S (ev_ishr (4 * (b : Int)) 2) ↔ oneC k S (b : Int) := by rw [c1']
  rw [st, if_pos hv']
  refine ⟨fun h1 h2 => ?_, fun h1 h2 => ?_, fun h1 h2 => ?_⟩
  · rw [if_pos (on.mpr h1), nx, if_neg h2, c1', Int.toNat_natCast]
  · rw [if_neg (fun z => h1 (on.mp z)), if_neg (fun z => z.2 (oe.mpr h2)), nx, if_pos h2]
  · rw [if_neg (fun z => h1 (on.mp z)), if_pos ⟨c2', fun z => h2 (oe.mp z)⟩, nx, if_neg h2]
theorem litF_l (hb : b < M) (hM : M ≤ 400) (h1 : ¬ oneC k S (b : Int)) : litF k M S (n + 1) (4 * (b : Int) + 1) run best = litF k M S n (S.1 (k + 7) b) run best := by
  obtain ⟨_, c1, c2⟩ := code_d ⟨b, by omega⟩
  have c1' : ev_ishr (4 * (b : Int) + 1) 2 = (b : Int) := c1
  have c2' : ev_iand (4 * (b : Int) + 1) 3 = 1 := c2
  have hv : litV M (b : Int) := ⟨by omega, by omega, by omega⟩
  have st : litF k M S (n + 1) (4 * (b : Int) + 1) run best = (if litV M (ev_ishr (4 * (b : Int) + 1) 2) then (if oneC k S (ev_ishr (4 * (b : Int) + 1) 2) then litF k M S n (nxC k M S (4 * (b : Int) + 1)) (addR run (lowC (S.2.1 (k + 8) (ev_ishr (4 * (b : Int) + 1) 2).toNat) (S.2.1 (k + 9) (ev_ishr (4 * (b : Int) + 1) 2).toNat) 128 0)) best else if ev_iand (4 * (b : Int) + 1) 3 = 0 ∧ ¬ opC k M S (4 * (b : Int) + 1) then litF k M S n (nxC k M S (4 * (b : Int) + 1)) [] (lngr run best) else litF k M S n (nxC k M S (4 * (b : Int) + 1)) run best) else lngr run best) := rfl
  have nx : nxC k M S (4 * (b : Int) + 1) = S.1 (k + 7) b := by
    unfold nxC
    rw [if_neg (fun z => by have := z.1; omega), c1', Int.toNat_natCast]
  have hv' : litV M (ev_ishr (4 * (b : Int) + 1) 2) := by
    rw [c1']
    exact hv
  have on : oneC k S (ev_ishr (4 * (b : Int) + 1) 2) ↔ oneC k S (b : Int) := by rw [c1']
  rw [st, if_pos hv', if_neg (fun z => h1 (on.mp z)), if_neg (fun z => by have := z.1; omega), nx]
theorem litF_0 : ∀ n, litF k M S n (-1) run best = lngr run best := fun n => by
  cases n with
  | zero => rfl
  | succ n =>
    have e : ev_ishr (-1) 2 = -1 := by decide
    show (if litV M (ev_ishr (-1) 2) then _ else lngr run best) = _
    rw [if_neg (fun z => by have := z.1; omega)]
/-- the code behind a node -/
def nxtN (p : Nat) (φ ψ up : Nat → Nat) (T0 : ev_St) (m : Nat) : Int := if T0.1 627 (320 * p + m) = -1 then 4 * (φ (up (up m)) : Int) + 1 else 4 * (ψ (T0.1 627 (320 * p + m)).toNat : Int)
theorem kcl_op {c f : Int} (h : 0 ≤ c ∧ c ≤ 18) : (17 ≤ kcl c f ∧ kcl c f ≤ 19 ↔ c = 8 ∨ c = 9 ∨ c = 10) ∧ (kcl c f = 0 ↔ c = 0) := by
  obtain rfl | rfl | rfl | rfl | rfl | rfl | rfl | rfl | rfl | rfl | rfl | rfl | rfl | rfl | rfl | rfl | rfl | rfl | rfl : c = 0 ∨ c = 1 ∨ c = 2 ∨ c = 3 ∨ c = 4 ∨ c = 5 ∨ c = 6 ∨ c = 7 ∨ c = 8 ∨ c = 9 ∨ c = 10 ∨ c = 11 ∨ c = 12 ∨ c = 13 ∨ c = 14 ∨ c = 15 ∨ c = 16 ∨ c = 17 ∨ c = 18 := by omega
  all_goals (by_cases w : f = 0 <;> simp [kcl, w])
theorem nodeW (hF : FINX k N M φ ψ own up S0 (sft p T0)) (hm : m < N) (h0 : m ≠ 0) (h18 : T0.1 625 (320 * p + m) ≠ 18) : (T0.1 630 (320 * p + m) = -1 → ¬ opN p T0 m → T0.1 625 (320 * p + m) = 0 ∧ bcC (S0.2.1 (k + 8) (φ m)) + bcC (S0.2.1 (k + 9) (φ m)) = 1 → ∀ n run best, litF k M S0 (n + 1) (4 * (ψ m : Int)) run best = litF k M S0 n (nxtN p φ ψ up T0 m) (addR run (lowC (S0.2.1 (k + 8) (φ m)) (S0.2.1 (k + 9) (φ m)) 128 0)) best) ∧ (opN p T0 m → ∃ t : Nat, T0.1 626 (320 * p + m) = (t : Int) ∧ t < N ∧ t ≠ 0 ∧ up t = m ∧ T0.1 625 (320 * p + t) = 18 ∧ T0.1 627 (320 * p + t) = -1 ∧ ∀ n run best, litF k M S0 (n + 1) (4 * (ψ m : Int)) run best = litF k M S0 n (if T0.1 626 (320 * p + t) = -1 then 4 * (φ m : Int) + 1 else 4 * (ψ (T0.1 626 (320 * p + t)).toNat : Int)) run best) ∧ (¬ opN p T0 m → ¬ (T0.1 630 (320 * p + m) = -1 ∧ T0.1 625 (320 * p + m) = 0 ∧ bcC (S0.2.1 (k + 8) (φ m)) + bcC (S0.2.1 (k + 9) (φ m)) = 1) → ∃ j, (j = 1 ∨ (j = 3 ∧ T0.1 630 (320 * p + m) = 2)) ∧ ∀ n run best, litF k M S0 (n + j) (4 * (ψ m : Int)) run best = litF k M S0 n (nxtN p φ ψ up T0 m) [] (lngr run best)) := by
  have h := TREE_of hF
  have hM : M ≤ 400 := hF.2.1.2.1
  have hV := hF.1.2.2.2.1
  obtain ⟨i1, i2, i3, i4, _⟩ := hF.1.2.2.2.2
  obtain ⟨kr, kk⟩ := FINX_K hF hm
  have kk' := kk.resolve_left (fun z => h0 z.1)
  have eK : ∀ m, tK (sft p T0) m = T0.1 625 (320 * p + m) := fun m => sft_1 (by omega) (by omega)
  have eC : ∀ m, tC (sft p T0) m = T0.1 626 (320 * p + m) := fun m => sft_1 (by omega) (by omega)
  have eX : ∀ m, tX (sft p T0) m = T0.1 627 (320 * p + m) := fun m => sft_1 (by omega) (by omega)
  have eR : tR (sft p T0) m = T0.1 630 (320 * p + m) := sft_1 (by omega) (by omega)
  obtain ⟨fM, pM, _, _⟩ := h.1 m hm
  have kop := kcl_op (c := tK (sft p T0) m) (f := (sft p T0).1 629 (3840 + m)) kr
  rw [← kk'.2] at kop
  rw [eK] at kop kr
  -- what follows the node
  have aft : S0.1 (k + 7) (ψ m) = nxtN p φ ψ up T0 m := by
    have q := i1 m hm h0 (by show tK (sft p T0) m ≠ 18; rw [eK]; exact h18)
    rw [show (sft p T0).1 627 (3840 + m) = T0.1 627 (320 * p + m) from eX m] at q
    exact q
  -- one row alone
  have only : ∀ r : Nat, T0.1 626 (320 * p + m) = (r : Int) → (0 ≤ onlyC k M S0 (φ m : Int) ↔ T0.1 627 (320 * p + r) = -1) := fun r hr => by
    have hc := (h.2.1 m hm).2 (by rw [eK]; exact h18)
    rw [eC, hr] at hc
    have hc2 : S0.1 (k + 4) (φ m) = ((φ r : Nat) : Int) := by
      rw [hc]
      unfold img
      rw [if_neg (by omega), Int.toNat_natCast]
    obtain ⟨t, t1, t2, t3, t4, t5⟩ := (h.2.2.2.1 m hm).resolve_left (by rw [eC, hr]; omega)
    have tr : t = r := by rw [eC, hr] at t1; omega
    subst tr
    have r18 : tK (sft p T0) t = 18 := t5.mpr (by rw [eK]; exact h18)
    have hs := ((h.2.2.1 t t3 (by omega)).2 r18).1
    rw [eX] at hs
    have rM := (h.1 t t3).1
    unfold onlyC rowC
    rw [if_pos (show litV M (φ m : Int) from ⟨by omega, by omega, by omega⟩), Int.toNat_natCast, hc2, if_pos (show litV M (φ t : Int) from ⟨by omega, by omega, by omega⟩), Int.toNat_natCast, hs]
    unfold img
    by_cases y : T0.1 627 (320 * p + t) = -1
    · rw [if_pos y, if_neg (by omega)]
      exact ⟨fun _ => y, fun _ => by omega⟩
    · rw [if_neg y, if_pos (by omega)]
      exact ⟨fun z => by omega, fun z => absurd z y⟩
  have opI : T0.1 630 (320 * p + m) = -1 → (opE k M S0 (φ m) ↔ opN p T0 m) := fun hr => by
    constructor
    · rintro ⟨z1, z2⟩
      have k8 := kop.1.mp z1
      rcases h.2.2.2.1 m hm with y | ⟨t, t1, t2, t3, t4, t5⟩
      · exfalso
        have hc := (h.2.1 m hm).2 (by rw [eK]; exact h18)
        rw [y] at hc
        have hc2 : S0.1 (k + 4) (φ m) = -1 := hc
        unfold onlyC rowC at z2
        rw [if_pos (show litV M (φ m : Int) from ⟨by omega, by omega, by omega⟩), Int.toNat_natCast, hc2, if_neg (fun w => by have := w.1; omega)] at z2
        omega
      · rw [eC] at t1
        refine ⟨k8, hr, ?_⟩
        rw [t1, Int.toNat_natCast]
        exact (only t t1).mp z2
    · rintro ⟨z1, _, z3⟩
      refine ⟨kop.1.mpr z1, ?_⟩
      rcases h.2.2.2.1 m hm with y | ⟨t, t1, t2, t3, t4, t5⟩
      · exfalso
        have q := (hV.2 m hm).2.2.2 (by show tK (sft p T0) m ≠ 18; rw [eK]; exact h18)
        have q2 := q.mpr (by rw [show (sft p T0).1 625 (3840 + m) = T0.1 625 (320 * p + m) from eK m]; omega)
        exact q2 y
      · rw [eC] at t1
        rw [t1, Int.toNat_natCast] at z3
        exact (only t t1).mpr z3
  have one0 : oneC k S0 (φ m : Int) ↔ T0.1 625 (320 * p + m) = 0 ∧ bcC (S0.2.1 (k + 8) (φ m)) + bcC (S0.2.1 (k + 9) (φ m)) = 1 := by
    show (S0.1 (k + 1) (φ m : Int).toNat = 0 ∧ bcC (S0.2.1 (k + 8) (φ m : Int).toNat) + bcC (S0.2.1 (k + 9) (φ m : Int).toNat) = 1) ↔ _
    rw [Int.toNat_natCast, kop.2]
  have psi1 : T0.1 630 (320 * p + m) = -1 → ψ m = φ m := fun hr => by
    rcases h.2.2.2.2.2.2.2.2 m hm with ⟨_, y⟩ | ⟨⟨y, _⟩, _⟩ | ⟨⟨y, _⟩, _⟩
    · exact y
    · have y' : tR (sft p T0) m = 0 ∨ tR (sft p T0) m = 1 := y
      omega
    · have y' : tR (sft p T0) m = 2 := y
      omega
  refine ⟨fun hr ho ⟨y1, y2⟩ n run best => ?_, fun ho => ?_, fun ho hn => ?_⟩
  · have e := psi1 hr
    rw [← aft, e]
    exact (litF_e fM hM).1 (one0.mpr ⟨y1, y2⟩) (fun z => ho ((opI hr).mp z))
  · obtain ⟨o1, o2, o3⟩ := ho
    have e := psi1 o2
    rcases h.2.2.2.1 m hm with y | ⟨t, t1, t2, t3, t4, t5⟩
    · exfalso
      have q := (hV.2 m hm).2.2.2 (by show tK (sft p T0) m ≠ 18; rw [eK]; exact h18)
      exact (q.mpr (by rw [show (sft p T0).1 625 (3840 + m) = T0.1 625 (320 * p + m) from eK m]; omega)) y
    · rw [eC] at t1
      rw [t1, Int.toNat_natCast] at o3
      have t18 : tK (sft p T0) t = 18 := t5.mpr (by rw [eK]; exact h18)
      refine ⟨t, t1, t3, by omega, t4, by rw [← eK]; exact t18, o3, fun n run best => ?_⟩
      have q3 := i3 m hm (by show 8 ≤ tK (sft p T0) m ∧ tK (sft p T0) m ≤ 13; rw [eK]; omega)
      rw [show (sft p T0).1 626 (3840 + m) = T0.1 626 (320 * p + m) from eC m, t1, Int.toNat_natCast, show (sft p T0).1 627 (3840 + t) = T0.1 627 (320 * p + t) from eX t, if_pos o3] at q3
      have q2 := i2 t t3 t18
      rw [show (sft p T0).1 626 (3840 + t) = T0.1 626 (320 * p + t) from eC t, t4] at q2
      rw [e, (litF_e fM hM).2.1 (fun z => by have := (one0.mp z).1; omega) ((opI o2).mpr ⟨o1, o2, by rw [t1, Int.toNat_natCast]; exact o3⟩), q3, q2]
  · rcases h.2.2.2.2.2.2.2.2 m hm with ⟨z, e⟩ | ⟨⟨z, _⟩, z2, z3, z4, z5, _⟩ | ⟨⟨z, _⟩, _⟩
    · have z' : T0.1 630 (320 * p + m) = -1 := eR.symm.trans z
      refine ⟨1, Or.inl rfl, fun n run best => ?_⟩
      rw [← aft, e]
      exact (litF_e fM hM).2.2 (fun w => hn ⟨z', one0.mp w⟩) (fun w => ho ((opI z').mp w))
    · refine ⟨1, Or.inl rfl, fun n run best => ?_⟩
      rw [← aft]
      have z' : T0.1 630 (320 * p + m) = 0 ∨ T0.1 630 (320 * p + m) = 1 := by rw [← eR]; exact z
      have kd : S0.1 (k + 1) (ψ m) = 13 + T0.1 630 (320 * p + m) := by
        rw [← eR]
        exact z2
      exact (litF_e pM hM).2.2 (fun w => by
        have w1 : S0.1 (k + 1) (ψ m : Int).toNat = 0 := w.1
        rw [Int.toNat_natCast] at w1
        omega) (fun w => by have := w.1; omega)
    · have z' : T0.1 630 (320 * p + m) = 2 := eR.symm.trans z
      refine ⟨3, Or.inr ⟨rfl, z'⟩, fun n run best => ?_⟩
      obtain ⟨x, y, e1, e2, e3, e4, e5⟩ := (i4 m hm).2 z
      obtain ⟨p1, p2, p3, p4, p5, p6, p7, p8, p9, _⟩ := (TREE_r h hm).2 z x y e1 e2
      have nk : ∀ b : Nat, S0.1 (k + 1) b ≠ 0 → ¬ oneC k S0 (b : Int) := fun b hb w => by
        have w1 : S0.1 (k + 1) (b : Int).toNat = 0 := w.1
        rw [Int.toNat_natCast] at w1
        exact hb w1
      have oψ : opE k M S0 (ψ m) := by
        refine ⟨by omega, ?_⟩
        unfold onlyC rowC
        rw [if_pos (show litV M (ψ m : Int) from ⟨by omega, by omega, by omega⟩), Int.toNat_natCast, e1, if_pos (show litV M (x : Int) from ⟨by omega, by omega, by omega⟩), Int.toNat_natCast, p8, if_neg (by omega)]
        omega
      rw [show n + 3 = (n + 1 + 1) + 1 from rfl, (litF_e pM hM).2.1 (nk _ (by omega)) oψ, e5, (litF_e (show y < M by omega) hM).2.2 (nk _ (by omega)) (fun w => by have := w.1; omega), e4, litF_l pM hM (nk _ (by omega)), aft]
theorem leaveW (hF : FINX k N M φ ψ own up S0 (sft p T0)) (hm : m < N) (h8 : T0.1 625 (320 * p + m) = 8 ∨ T0.1 625 (320 * p + m) = 9 ∨ T0.1 625 (320 * p + m) = 10) (hr : T0.1 630 (320 * p + m) = -1) : litF k M S0 (n + 1) (4 * (φ m : Int) + 1) run best = litF k M S0 n (if m = 0 then -1 else nxtN p φ ψ up T0 m) run best := by
  have h := TREE_of hF
  have hM : M ≤ 400 := hF.2.1.2.1
  obtain ⟨i1, i2, i3, i4, i5, _⟩ := hF.1.2.2.2.2
  obtain ⟨kr, kk⟩ := FINX_K hF hm
  have eK : ∀ m, tK (sft p T0) m = T0.1 625 (320 * p + m) := fun m => sft_1 (by omega) (by omega)
  have eX : ∀ m, tX (sft p T0) m = T0.1 627 (320 * p + m) := fun m => sft_1 (by omega) (by omega)
  have eR : tR (sft p T0) m = T0.1 630 (320 * p + m) := sft_1 (by omega) (by omega)
  have fM := (h.1 m hm).1
  have n1 : ¬ oneC k S0 (φ m : Int) := fun w => by
    have w1 : S0.1 (k + 1) (φ m : Int).toNat = 0 := w.1
    rw [Int.toNat_natCast] at w1
    rcases kk with ⟨_, _, z⟩ | ⟨_, z⟩
    · omega
    · have q := (kcl_op (c := tK (sft p T0) m) (f := (sft p T0).1 629 (3840 + m)) kr).2
      rw [z] at w1
      have := q.mp w1
      rw [eK] at this
      omega
  rw [litF_l fM hM n1]
  by_cases e : m = 0
  · subst e
    rw [if_pos rfl, i5]
  · rw [if_neg e]
    have psi : ψ m = φ m := by
      rcases h.2.2.2.2.2.2.2.2 m hm with ⟨_, y⟩ | ⟨⟨y, _⟩, _⟩ | ⟨⟨y, _⟩, _⟩
      · exact y
      · have y' : tR (sft p T0) m = 0 ∨ tR (sft p T0) m = 1 := y
        omega
      · have y' : tR (sft p T0) m = 2 := y
        omega
    have q := i1 m hm e (by show tK (sft p T0) m ≠ 18; rw [eK]; omega)
    rw [show (sft p T0).1 627 (3840 + m) = T0.1 627 (320 * p + m) from eX m, psi] at q
    rw [q]
    rfl
end OPYF
