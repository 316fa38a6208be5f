/-! ENGINES: the reference finds by trying back -/
section OQY
variable {Q p n x d i pc f m len st r k j start : Nat} {P : Nat → T3} {E : Nat → Int → Bool} {X : Nat → SNs} {lv A : SNs} {c : CPs} {V W : VSs} {nx : Nat → CPs → VSs → RSs} {S S0 S1 S2 T T0 T1 T2 : ev_St} {a b v : Int} {R : RSs}
theorem l314c : ∀ (r x q : Nat) (T : ev_St), x + r = 20 → r < q → (∀ j, j < x → T.1 672 j = -1) → ∃ T', jl_314_26 Q (start : Int) q ((210 * p : Nat) : Int) 1 (x : Int) T = jl_314_47 Q (start : Int) ((210 * p : Nat) : Int) Q 1 T' ∧ (∀ j, j < 20 → T'.1 672 j = -1) ∧ (∀ c i, c ≠ 672 → T'.1 c i = T.1 c i) ∧ T'.2 = T.2 := fun r => by
  induction r with
  | zero =>
    intro x q T hx hq h
    obtain ⟨q', e⟩ : ∃ q', q = q' + 1 := ⟨q - 1, by omega⟩
    refine ⟨T, ?_, fun j hj => h j (by omega), fun _ _ _ => rfl, rfl⟩
    rw [e]
    show jb_314_26 Q (start : Int) (jl_314_26 Q (start : Int) q') ((210 * p : Nat) : Int) 1 (x : Int) T = _
    unfold jb_314_26
    rw [if_pos (by omega)]
  | succ r ih =>
    intro x q T hx hq h
    obtain ⟨q', e⟩ : ∃ q', q = q' + 1 := ⟨q - 1, by omega⟩
    obtain ⟨T', i1, i2, i3, i4⟩ := ih (x + 1) q' (ev_pI T 672 x (-1)) (by omega) (by omega) (fun j hj => by
      by_cases e : j = x
      · rw [e, rd_eq]
      · rw [rd_nf e]
        exact h j (by omega))
    refine ⟨T', ?_, i2, fun c i hc => (i3 c i hc).trans (rd_nk hc), i4⟩
    rw [e]
    show jb_314_26 Q (start : Int) (jl_314_26 Q (start : Int) q') ((210 * p : Nat) : Int) 1 (x : Int) T = _
    unfold jb_314_26
    rw [if_neg (by omega)]
    try dsimp only
    rw [al_314.2.2.2.2.2.2.1, sp_if (by omega), Int.toNat_natCast, sp_b, sp_ck (by omega), show (x : Int) + 1 = ((x + 1 : Nat) : Int) from by omega]
    exact i1
/-- one start -/
theorem sp_314 (hS : RSt Q p n len P E X T0) (hF : FRq T0 T) (hx : x ≤ len) (h0 : 0 < n) (hQ : 1000000 ≤ Q) (hV : ∀ i k, i < n → k ≤ 80 → T.1 669 (81 * i + k) = if V k i = true then 1 else 0) : ∃ T', (match (rn P n E X (len - x + 1) x 0 (c0 x) V).1 with
    | none => jm_314 Q (p : Int) (x : Int) T = some (0, T') ∧ (∀ i k, i < n → k ≤ 80 → T'.1 669 (81 * i + k) = if (rn P n E X (len - x + 1) x 0 (c0 x) V).2 k i = true then 1 else 0) ∧ FRq T0 T'
    | some e => jm_314 Q (p : Int) (x : Int) T = some (1, T') ∧ (∀ c i, ¬ (c = 621 ∧ i = 81) → ¬ (669 ≤ c ∧ c ≤ 672) → ¬ ((c = 679 ∨ c = 680) ∧ i = 0) → T'.1 c i = T0.1 c i) ∧ T'.2 = T0.2 ∧ T'.1 679 0 = (x : Int) ∧ T'.1 680 0 = (e.1 : Int) ∧ (∀ j, 1 ≤ j → j < 20 → T'.1 672 j = e.2 j) ∧ e.2 0 = (x : Int)) := by
  obtain ⟨_, ⟨l73, l80, p12, n210⟩, _⟩ := id hS
  obtain ⟨a662, a663, a664, a669, a670, a671, a672, a678, a679, a680, a633, a634⟩ := al_314
  obtain ⟨T1, i1, i2, i3, i4⟩ := l314c (Q := Q) (start := x) (p := p) 20 0 Q (ev_pI (ev_pI T 670 0 0) 671 0 (x : Int)) rfl (by omega) (fun j hj => absurd hj (Nat.not_lt_zero j))
  have head : jm_314 Q (p : Int) (x : Int) T = jl_314_47 Q (x : Int) ((210 * p : Nat) : Int) Q ((0 + 1 : Nat) : Int) T1 := by
    unfold jm_314
    rw [sp_ck (by omega), a670, sp_if (by omega), show Int.toNat (0 : Int) = 0 from rfl, sp_b, a671, sp_if (by omega), sp_b, show 210 * (p : Int) = ((210 * p : Nat) : Int) from by omega]
    exact i1
  have F1 : FRq T0 T1 := FRq_t hF ⟨fun c i y1 y2 => by rw [i3 c i (by omega), sp_pI1, if_neg (by omega), sp_pI1, if_neg (by omega)], i4⟩
  have R1 : RRt n V (c0 x) T1 := ⟨fun i k hi hk => by rw [i3 _ _ (by decide), rd_nk (by decide), rd_nk (by decide)]; exact hV i k hi hk, fun j y1 y2 => by rw [i2 j y2]; exact (if_neg (by omega)).symm⟩
  have tl := tot_le (n := n) (V := V) 81
  have tn : 81 * n ≤ 17010 := by omega
  obtain ⟨t, T', t1, t2⟩ := rn_sim (start := x) hS (len - x) x (by omega) 0 (c0 x) V T1 0 h0 R1 F1 (by rw [i3 _ _ (by decide), rd_nk (by decide), rd_eq]; rfl) (by rw [i3 _ _ (by decide), rd_eq]) (by omega)
  rw [head]
  have eQ : Q = (Q - t - 1) + 1 + t := by omega
  generalize rn P n E X (len - x + 1) x 0 (c0 x) V = R at t1 t2 ⊢
  obtain ⟨Ra, Rb⟩ := R
  cases Ra with
  | none =>
    obtain ⟨u1, u2, u3, u4⟩ := t2
    refine ⟨T', ?_, u2.1, u3⟩
    have q := u1 (Q - t - 1 + 1)
    rw [← eQ] at q
    refine q.trans ?_
    rw [l314]
    unfold jb_314_47
    rw [if_pos (by decide)]
  | some e =>
    obtain ⟨u1, u2, u3, u4, u5, u6, u7⟩ := t2
    refine ⟨T', ?_, u2, u3, u4, u5, u6, u7⟩
    have q := u1 (Q - t - 1 + 1)
    rw [← eQ] at q
    exact q
/-- all starts -/
def FNt (T0 T' : ev_St) (e : Nat × CPs) : Prop := (∀ c i, ¬ (c = 621 ∧ i = 81) → ¬ (669 ≤ c ∧ c ≤ 672) → ¬ ((c = 679 ∨ c = 680) ∧ i = 0) → T'.1 c i = T0.1 c i) ∧ T'.2 = T0.2 ∧ T'.1 679 0 = e.2 0 ∧ T'.1 680 0 = (e.1 : Int) ∧ ∀ j, 1 ≤ j → j < 20 → T'.1 672 j = e.2 j
theorem l315b (hS : RSt Q p n len P E X T0) (h0 : 0 < n) (hQ : 1000000 ≤ Q) : ∀ r x V T q, x + r = len → FRq T0 T → (∀ i k, i < n → k ≤ 80 → T.1 669 (81 * i + k) = if V k i = true then 1 else 0) → r + 2 < q → ∃ T', (match stt P n E X r x V with
    | none => jl_315_27 Q (p : Int) q 0 (x : Int) T = jl_315_57 Q 0 Q 1 T' ∧ FRq T0 T'
    | some e => jl_315_27 Q (p : Int) q 0 (x : Int) T = jl_315_57 Q 1 Q 1 T' ∧ FNt T0 T' e) := fun r => by
  obtain ⟨_, ⟨l73, l80, p12, n210⟩, _⟩ := id hS
  have turn : ∀ x V T q, x ≤ len → FRq T0 T → (∀ i k, i < n → k ≤ 80 → T.1 669 (81 * i + k) = if V k i = true then 1 else 0) → ∃ T', (match (rn P n E X (len - x + 1) x 0 (c0 x) V).1 with
      | none => jl_315_27 Q (p : Int) (q + 1) 0 (x : Int) T = jl_315_27 Q (p : Int) q 0 ((x + 1 : Nat) : Int) T' ∧ (∀ i k, i < n → k ≤ 80 → T'.1 669 (81 * i + k) = if (rn P n E X (len - x + 1) x 0 (c0 x) V).2 k i = true then 1 else 0) ∧ FRq T0 T'
      | some e => jl_315_27 Q (p : Int) (q + 1) 0 (x : Int) T = jl_315_27 Q (p : Int) q 1 ((x + 1 : Nat) : Int) T' ∧ FNt T0 T' e) := fun x V T q hx hF hV => by
    obtain ⟨T', h⟩ := sp_314 hS hF hx h0 hQ hV
    have head : ∀ v, jm_314 Q (p : Int) (x : Int) T = some (v, T') → jl_315_27 Q (p : Int) (q + 1) 0 (x : Int) T = jl_315_27 Q (p : Int) q v ((x + 1 : Nat) : Int) T' := fun v hv => by
      show jb_315_27 Q (p : Int) (jl_315_27 Q (p : Int) q) 0 (x : Int) T = _
      unfold jb_315_27
      rw [sp_b, hF.1 621 73 (by omega) (by omega), l73, sp_jn, if_neg (by omega)]
      try dsimp only
      rw [if_neg (by decide)]
      try dsimp only
      rw [hv, sp_bd, sp_ck (by omega), show (x : Int) + 1 = ((x + 1 : Nat) : Int) from by omega]
    refine ⟨T', ?_⟩
    generalize rn P n E X (len - x + 1) x 0 (c0 x) V = R at h ⊢
    obtain ⟨Ra, Rb⟩ := R
    cases Ra with
    | none => exact ⟨head 0 h.1, h.2⟩
    | some e =>
      obtain ⟨u1, u2, u3, u4, u5, u6, u7⟩ := h
      exact ⟨head 1 u1, u2, u3, u4.trans u7.symm, u5, u6⟩
  have endn : ∀ v (x : Nat) T q, (v ≠ 0 ∨ (len : Int) < x) → T.1 621 73 = (len : Int) → jl_315_27 Q (p : Int) (q + 1) v (x : Int) T = jl_315_57 Q v Q 1 T := fun v x T q h h73 => by
    show jb_315_27 Q (p : Int) (jl_315_27 Q (p : Int) q) v (x : Int) T = _
    unfold jb_315_27
    rw [sp_b, h73, sp_jn]
    by_cases z : (len : Int) < (x : Int)
    · rw [if_pos z]
    · rw [if_neg z, if_pos (by omega)]
  induction r with
  | zero =>
    intro x V T q hx hF hV hq
    obtain ⟨q', e⟩ : ∃ q', q = q' + 1 + 1 := ⟨q - 2, by omega⟩
    obtain ⟨T', h⟩ := turn x V T (q' + 1) (by omega) hF hV
    rw [show len - x = 0 by omega] at h
    refine ⟨T', ?_⟩
    unfold stt
    rw [e]
    generalize rn P n E X (0 + 1) x 0 (c0 x) V = R at h ⊢
    obtain ⟨Ra, Rb⟩ := R
    cases Ra with
    | none => exact ⟨h.1.trans (endn 0 (x + 1) T' q' (Or.inr (by omega)) ((h.2.2.1 621 73 (by omega) (by omega)).trans l73)), h.2.2⟩
    | some e => exact ⟨h.1.trans (endn 1 (x + 1) T' q' (Or.inl (by decide)) ((h.2.1 621 73 (by omega) (by omega) (by omega)).trans l73)), h.2⟩
  | succ r ih =>
    intro x V T q hx hF hV hq
    obtain ⟨q', e⟩ : ∃ q', q = q' + 1 + 1 := ⟨q - 2, by omega⟩
    obtain ⟨T', h⟩ := turn x V T (q' + 1) (by omega) hF hV
    rw [show len - x = r + 1 by omega] at h
    unfold stt
    rw [e]
    generalize rn P n E X (r + 1 + 1) x 0 (c0 x) V = R at h ⊢
    obtain ⟨Ra, Rb⟩ := R
    cases Ra with
    | none =>
      obtain ⟨T'', i⟩ := ih (x + 1) Rb T' (q' + 1) (by omega) h.2.2 h.2.1 (by omega)
      refine ⟨T'', ?_⟩
      show (match stt P n E X r (x + 1) Rb with
        | none => _
        | some e => _)
      generalize stt P n E X r (x + 1) Rb = o at i ⊢
      cases o with
      | none => exact ⟨h.1.trans i.1, i.2⟩
      | some e => exact ⟨h.1.trans i.1, i.2⟩
    | some e => exact ⟨T', h.1.trans (endn 1 (x + 1) T' q' (Or.inl (by decide)) ((h.2.1 621 73 (by omega) (by omega) (by omega)).trans l73)), h.2⟩
theorem l315a : ∀ (r x q : Nat) (T : ev_St), x + r = 17010 → r < q → (∀ j, j < x → T.1 669 j = 0) → ∃ T', jl_315_2 Q (p : Int) a q (x : Int) T = jl_315_27 Q (p : Int) Q 0 a T' ∧ (∀ j, j < 17010 → T'.1 669 j = 0) ∧ (∀ c i, c ≠ 669 → T'.1 c i = T.1 c i) ∧ T'.2 = T.2 := fun r => by
  induction r with
  | zero =>
    intro x q T hx hq h
    obtain ⟨q', e⟩ : ∃ q', q = q' + 1 := ⟨q - 1, by omega⟩
    refine ⟨T, ?_, fun j hj => h j (by omega), fun _ _ _ => rfl, rfl⟩
    rw [e]
    show jb_315_2 Q (p : Int) a (jl_315_2 Q (p : Int) a q') (x : Int) T = _
    unfold jb_315_2
    rw [if_pos (by omega)]
  | succ r ih =>
    intro x q T hx hq h
    obtain ⟨q', e⟩ : ∃ q', q = q' + 1 := ⟨q - 1, by omega⟩
    obtain ⟨T', i1, i2, i3, i4⟩ := ih (x + 1) q' (ev_pI T 669 x 0) (by omega) (by omega) (fun j hj => by
      by_cases e : j = x
      · rw [e, rd_eq]
      · rw [rd_nf e]
        exact h j (by omega))
    refine ⟨T', ?_, i2, fun c i hc => (i3 c i hc).trans (rd_nk hc), i4⟩
    rw [e]
    show jb_315_2 Q (p : Int) a (jl_315_2 Q (p : Int) a q') (x : Int) T = _
    unfold jb_315_2
    rw [if_neg (by omega)]
    try dsimp only
    rw [al_314.2.2.2.1, sp_if (by omega), Int.toNat_natCast, sp_b, sp_ck (by omega), show (x : Int) + 1 = ((x + 1 : Nat) : Int) from by omega]
    exact i1
/-- the groups are read -/
theorem l315c {e : CPs} (h : ∀ j, 1 ≤ j → j < 20 → T.1 672 j = e j) : ∀ (r g q : Nat) (T1 : ev_St), g + r = 10 → 1 ≤ g → r < q → (∀ c i, ¬ ((c = 679 ∨ c = 680) ∧ 1 ≤ i) → T1.1 c i = T.1 c i) → T1.2 = T.2 → (∀ j, 1 ≤ j → j < g → T1.1 679 j = (if e (2 * j + 1) = -1 then -1 else e (2 * j)) ∧ T1.1 680 j = e (2 * j + 1)) → ∃ T', jl_315_57 Q 1 q (g : Int) T1 = some (1, T') ∧ (∀ c i, ¬ ((c = 679 ∨ c = 680) ∧ 1 ≤ i) → T'.1 c i = T.1 c i) ∧ T'.2 = T.2 ∧ ∀ j, 1 ≤ j → j < 10 → T'.1 679 j = (if e (2 * j + 1) = -1 then -1 else e (2 * j)) ∧ T'.1 680 j = e (2 * j + 1) := fun r => by
  obtain ⟨a662, a663, a664, a669, a670, a671, a672, a678, a679, a680, a633, a634⟩ := al_314
  induction r with
  | zero =>
    intro g q T1 hg h1 hq f1 f2 hj
    obtain ⟨q', e⟩ : ∃ q', q = q' + 1 := ⟨q - 1, by omega⟩
    refine ⟨T1, ?_, f1, f2, fun j j1 j2 => hj j j1 (by omega)⟩
    rw [e]
    show jb_315_57 Q 1 (jl_315_57 Q 1 q') (g : Int) T1 = _
    unfold jb_315_57
    rw [if_pos (by omega)]
    try dsimp only
    rw [sp_if (Or.inr rfl)]
  | succ r ih =>
    intro g q T1 hg h1 hq f1 f2 hj
    obtain ⟨q', e0⟩ : ∃ q', q = q' + 1 := ⟨q - 1, by omega⟩
    obtain ⟨v, hv⟩ : ∃ v, v = if e (2 * g + 1) = -1 then -1 else e (2 * g) := ⟨_, rfl⟩
    obtain ⟨Y, hY⟩ : ∃ Y, Y = ev_pI (ev_pI T1 679 g v) 680 g (e (2 * g + 1)) := ⟨_, rfl⟩
    have oY : ∀ c i, ¬ ((c = 679 ∨ c = 680) ∧ i = g) → Y.1 c i = T1.1 c i := fun c i y => by
      rw [hY, sp_pI1, if_neg (by omega)]
      try dsimp only
      rw [sp_pI1, if_neg (by omega)]
    have k1 : T1.1 672 (2 * g + 1) = e (2 * g + 1) := (f1 _ _ (by omega)).trans (h _ (by omega) (by omega))
    have k2 : T1.1 672 (2 * g) = e (2 * g) := (f1 _ _ (by omega)).trans (h _ (by omega) (by omega))
    obtain ⟨T', i1, i2, i3, i4⟩ := ih (g + 1) q' Y (by omega) (by omega) (by omega) (fun c i y => (oY c i (by omega)).trans (f1 c i y)) (by rw [hY]; exact f2) (fun j j1 j2 => by
      by_cases e1 : j = g
      · subst e1
        rw [hY, rd_nk (by decide), rd_eq, rd_eq]
        exact ⟨hv, rfl⟩
      · rw [oY _ _ (by omega), oY _ _ (by omega)]
        exact hj j j1 (by omega))
    refine ⟨T', ?_, i2, i3, i4⟩
    rw [e0]
    show jb_315_57 Q 1 (jl_315_57 Q 1 q') (g : Int) T1 = _
    have fin : ∀ v', v' = v → (ev_if ((0 : Int) ≤ (g : Int) ∧ (g : Int) < (ev_aln 679 : Int)) (ev_b (ev_pI T1 679 (Int.toNat (g : Int)) v') fun s43 => ev_ck (2 * (g : Int)) fun x44 => ev_ck (x44 + 1) fun x45 => ev_if ((0 : Int) ≤ x45 ∧ x45 < ((20 : Nat) : Int)) (ev_b (s43.1 672 (Int.toNat x45)) fun x46 => ev_if ((0 : Int) ≤ (g : Int) ∧ (g : Int) < (ev_aln 680 : Int)) (ev_b (ev_pI s43 680 (Int.toNat (g : Int)) x46) fun s47 => ev_ck ((g : Int) + 1) fun x48 => jl_315_57 Q 1 q' x48 s47)))) = some (1, T') := fun v' hv' => by
      rw [hv', a679, sp_if (by omega), Int.toNat_natCast, sp_b, sp_ck (by omega), sp_ck (by omega), sp_if (by omega), show Int.toNat (2 * (g : Int) + 1) = 2 * g + 1 from by omega, sp_b, rd_nk (by decide), k1, a680, sp_if (by omega), sp_b, ← hY, sp_ck (by omega), show (g : Int) + 1 = ((g + 1 : Nat) : Int) from by omega]
      exact i1
    unfold jb_315_57
    rw [if_neg (by omega)]
    try dsimp only
    rw [if_neg (by decide)]
    try dsimp only
    rw [sp_ck (by omega), sp_ck (by omega), a672, sp_if (by omega), show Int.toNat (2 * (g : Int) + 1) = 2 * g + 1 from by omega, sp_b, k1, sp_jn]
    by_cases z : e (2 * g + 1) = -1
    · rw [if_neg (fun y => y z)]
      exact fin (-1) (by rw [hv, if_pos z])
    · rw [if_pos z]
      try dsimp only
      rw [sp_ck (by omega), sp_if (by omega), show Int.toNat (2 * (g : Int)) = 2 * g from by omega, sp_b, k2]
      exact fin _ (by rw [hv, if_neg z])
/-- what the reference finds is what threads come to -/
theorem sp_315 (hS : RSt Q p n len P E X T0) (h0 : 0 < n) (hQ : 1000000 ≤ Q) (hx : x ≤ len) : ∃ T', (match PK P n E X (fun _ => true) (len - x) x [] true with
    | none => jm_315 Q (p : Int) (x : Int) T0 = some (0, T')
    | some e => jm_315 Q (p : Int) (x : Int) T0 = some (1, T') ∧ T'.1 679 0 = e.2 0 ∧ T'.1 680 0 = (e.1 : Int) ∧ ∀ j, 1 ≤ j → j < 10 → T'.1 679 j = (if e.2 (2 * j + 1) = -1 then -1 else e.2 (2 * j)) ∧ T'.1 680 j = e.2 (2 * j + 1)) ∧ (∀ c i, ¬ (c = 621 ∧ i = 81) → ¬ (669 ≤ c ∧ c ≤ 672) → ¬ (c = 679 ∨ c = 680) → T'.1 c i = T0.1 c i) ∧ T'.2 = T0.2 := by
  obtain ⟨_, ⟨l73, l80, p12, n210⟩, _⟩ := id hS
  obtain ⟨T1, a1, a2, a3, a4⟩ := l315a (Q := Q) (p := p) (a := (x : Int)) 17010 0 Q T0 rfl (by omega) (fun j hj => absurd hj (Nat.not_lt_zero j))
  have F1 : FRq T0 T1 := ⟨fun c i y1 y2 => a3 c i (by omega), a4⟩
  obtain ⟨T2, b⟩ := l315b hS h0 hQ (len - x) x (fun _ _ => false) T1 Q (by omega) F1 (fun i k hi hk => by rw [a2 _ (by omega)]; rfl) (by omega)
  have ft := (FT (P := P) (n := n) (E := E) (X := X) (len - x) x [] (fun _ _ => false) (fun _ _ => rfl)).1
  have ft' : stt P n E X (len - x) x (fun _ _ => false) = PK P n E X (fun _ => true) (len - x) x [] true := ft
  rw [← ft']
  have head : jm_315 Q (p : Int) (x : Int) T0 = jl_315_27 Q (p : Int) Q 0 (x : Int) T1 := a1
  rw [head]
  generalize stt P n E X (len - x) x (fun _ _ => false) = o at b ⊢
  cases o with
  | none =>
    refine ⟨T2, ?_, fun c i y1 y2 _ => b.2.1 c i y1 y2, b.2.2⟩
    show jl_315_27 Q (p : Int) Q 0 (x : Int) T1 = some (0, T2)
    rw [b.1]
    obtain ⟨q', e⟩ : ∃ q', Q = q' + 1 := ⟨Q - 1, by omega⟩
    have : ∀ q, jl_315_57 Q 0 (q + 1) 1 T2 = some (0, T2) := fun q => by
      show jb_315_57 Q 0 (jl_315_57 Q 0 q) 1 T2 = _
      unfold jb_315_57
      rw [if_neg (by decide)]
      try dsimp only
      rw [if_pos rfl]
      try dsimp only
      rw [sp_if (Or.inl rfl)]
    have q := this (Q - 1)
    rw [show Q - 1 + 1 = Q by omega] at q
    exact q
  | some e =>
    obtain ⟨b1, b2, b3, b4, b5, b6⟩ := b
    obtain ⟨T', c1, c2, c3, c4⟩ := l315c (Q := Q) b6 9 1 Q T2 rfl (Nat.le_refl 1) (by omega) (fun _ _ _ => rfl) rfl (fun j j1 j2 => by omega)
    refine ⟨T', ⟨?_, ?_, ?_, c4⟩, fun c i y1 y2 y3 => (c2 c i (by omega)).trans (b2 c i y1 y2 (by omega)), c3.trans b3⟩
    · rw [b1]
      exact c1
    · rw [c2 _ _ (by omega)]
      exact b4
    · rw [c2 _ _ (by omega)]
      exact b5
end OQY
