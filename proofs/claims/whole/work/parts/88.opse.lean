/-! THE LOG as a component; undo and redo as calls -/
def lg_E (S : ev_St) : Int := if S.1 254 12 = S.1 254 13 then S.1 254 9 else S.1 714 (S.1 254 13 - 1).toNat
/-- n: calls made so far, at least as many -/
def LG (n : Int) (D : lg_D) (S : ev_St) : Prop := sp_LR n S ∧ lg_C D (lg_E S).toNat (S.1 254 9).toNat S S ∧ (0 ≤ lg_E S ∧ lg_E S ≤ 810 * n ∧ dS D (lg_E S).toNat ≤ 1600 * n) ∧ (S.1 621 125 = lg_E S ∧ S.1 621 128 = dS D (lg_E S).toNat) ∧ ∀ g : Nat, (g : Int) < S.1 254 13 → 0 ≤ S.1 261 g ∧ S.1 715 g = dS D (S.1 714 g).toNat
theorem rd_L {S : ev_St} {k f : Nat} {x : Int64} : (ev_pL S k f x).2.1 k f = x := if_pos ⟨rfl, rfl⟩
theorem bs_s {f : Nat → Int} {g : Nat} : sp_bs f ((g : Int) + 1) = f g := by
  unfold sp_bs
  rw [if_neg (by omega), show ((g : Int) + 1 - 1).toNat = g from by omega]
theorem bs_mono {n : Int} {S : ev_St} (hG : sp_LR n S) (h : ∀ g : Nat, (g : Int) < S.1 254 13 → 0 ≤ S.1 261 g) : ∀ (m g : Nat), ((g + m : Nat) : Int) ≤ S.1 254 13 → 0 ≤ sp_bs (S.1 714) g ∧ sp_bs (S.1 714) g ≤ sp_bs (S.1 714) ((g + m : Nat) : Int)
  | 0, 0, _ => ⟨Int.le_refl _, Int.le_refl _⟩
  | 0, g + 1, hg => by
    have q := bs_mono hG h 0 g (by omega)
    have r := hG.2.2.2.2.2.2 g (by omega)
    have s := h g (by omega)
    rw [show ((g + 1 : Nat) : Int) = (g : Int) + 1 from by omega, bs_s, r]
    omega
  | m + 1, g, hg => by
    have q := bs_mono hG h m g (by omega)
    have r := hG.2.2.2.2.2.2 (g + m) (by omega)
    have s := h (g + m) (by omega)
    rw [show ((g + (m + 1) : Nat) : Int) = ((g + m : Nat) : Int) + 1 from by omega, bs_s, r]
    omega
theorem bs_le {n : Int} {S : ev_St} (hG : sp_LR n S) (h : ∀ g : Nat, (g : Int) < S.1 254 13 → 0 ≤ S.1 261 g) {a b : Int} (h0 : 0 ≤ a) (h1 : a ≤ b) (h2 : b ≤ S.1 254 13) : 0 ≤ sp_bs (S.1 714) a ∧ sp_bs (S.1 714) a ≤ sp_bs (S.1 714) b := by
  have q := bs_mono hG h (b - a).toNat a.toNat (by omega)
  rw [show ((a.toNat + (b - a).toNat : Nat) : Int) = b from by omega, show ((a.toNat : Nat) : Int) = a from by omega] at q
  exact q
theorem lg_E_bs {n : Int} {D : lg_D} {S : ev_St} (hG : LG n D S) (ho : S.1 254 11 = 0) : lg_E S = sp_bs (S.1 714) (S.1 254 13) := by
  obtain ⟨⟨_, ⟨g5, g6, g7, g8, g9⟩, _, _, _, g13, _⟩, h2, _, _, _⟩ := hG
  unfold lg_E
  by_cases e : S.1 254 12 = S.1 254 13
  · rw [if_pos e, g13, ho, e]
    omega
  · rw [if_neg e]
    unfold sp_bs
    rw [if_neg (by omega)]
def sp_Wu (b g : Nat) : Prop := b = 258 ∨ b = 262 ∨ (263 ≤ b ∧ b ≤ 268) ∨ (b = 254 ∧ (g = 9 ∨ g = 10 ∨ g = 12)) ∨ (b = 621 ∧ (g = 0 ∨ g = 130)) ∨ b = 707 ∨ b = 708 ∨ b = 710
theorem LG_no {n : Int} {D : lg_D} {S : ev_St} {c : Int} (hG : LG n D S) : LG n D (ev_pI (ev_tick S) 621 0 c) := by
  obtain ⟨h1, h2, h3, h4, h5⟩ := hG
  have e : ∀ k g, ¬ (k = 621 ∧ g = 0) → (ev_pI (ev_tick S) 621 0 c).1 k g = S.1 k g := fun k g h => if_neg h
  have eE : lg_E (ev_pI (ev_tick S) 621 0 c) = lg_E S := rfl
  unfold LG
  rw [eE]
  refine ⟨h1, ?_, h3, h4, h5⟩
  rw [e 254 9 (by omega)]
  exact lg_C_c h2 (fun k g hk => e k g (by omega)) rfl rfl (fun k g hk => e k g (by omega))
theorem sp_191_no {Q : Nat} {S : ev_St} (h : S.1 254 14 ≠ 0 ∨ S.1 254 12 = 0) : jm_191 Q S = some (.inr "java/lang/IllegalStateException", ev_tick S) := by
  unfold jm_191
  rw [sp_b]
  by_cases e : S.1 254 14 = 0
  · rw [if_neg (fun z => z e), sp_b, if_neg (by omega)]
  · rw [if_pos e]
theorem sp_357_no {Q : Nat} {S : ev_St} (h : S.1 621 132 ≠ 0 ∨ S.1 621 130 = 0) : jm_357 Q S = some (0, ev_pI S 621 0 1) := by
  unfold jm_357
  simp only [sp_b, sp_jn]
  by_cases e : S.1 621 132 = 0
  · rw [if_neg (fun z => z e), if_neg (by omega), if_neg (by rw [rd_eq]; omega)]
  · rw [if_pos e, if_neg (by rw [rd_eq]; omega)]
theorem sp_192_no {Q : Nat} {S : ev_St} (h : S.1 254 14 ≠ 0 ∨ S.1 254 13 ≤ S.1 254 12) : jm_192 Q S = some (.inr "java/lang/IllegalStateException", ev_tick S) := by
  unfold jm_192
  rw [sp_b]
  by_cases e : S.1 254 14 = 0
  · rw [if_neg (fun z => z e), sp_b, sp_b, if_neg (by omega)]
  · rw [if_pos e]
theorem sp_358_no {Q : Nat} {S : ev_St} (h : S.1 621 132 ≠ 0 ∨ S.1 621 130 = S.1 621 131) : jm_358 Q S = some (0, ev_pI S 621 0 1) := by
  unfold jm_358
  simp only [sp_b, sp_jn]
  by_cases e : S.1 621 132 = 0
  · rw [if_neg (fun z => z e), if_neg (by omega), if_neg (by rw [rd_eq]; omega)]
  · rw [if_pos e, if_neg (by rw [rd_eq]; omega)]
section OPSE
variable {Q L j : Nat} {xs : Nat → Int32} {S : ev_St} {n : Int} {D : lg_D}
theorem op_25 (hQ : 1000000 ≤ Q) (hn : n ≤ 512) (hG : LG n D S) (hL : L ≤ 3072) (hj : j + 6 ≤ L) : ∃ S2, (∀ K, ja_1820 Q L xs K S = K S2) ∧ LG n D S2 ∧ sp_F sp_Wu S S2 := by
  have hG0 := hG
  obtain ⟨hR, hC, hE, h125, h261⟩ := hG
  have hR0 := hR
  obtain ⟨⟨g1, g2, g3, g4⟩, ⟨g5, g6, g7, g8, g9⟩, g10, g11, g12, g13, g14⟩ := hR
  by_cases hno : S.1 254 14 ≠ 0 ∨ S.1 254 12 = 0
  · refine ⟨_, fun K => la_25 (c := 1) (b := 0) hL hj (lw_25_x0 (sp_191_no hno)) (sp_357_no (S := ev_tick S) (by rw [sp_tick1]; omega)) rd_eq (fun q => by cases q), LG_no hG0, ?_⟩
    exact ⟨fun b g w => (sp_F_no (c := 1)).1 b g (fun q => w (by unfold sp_Wu; unfold sp_Wc at q; omega)), (sp_F_no (c := 1)).2⟩
  · have ho : S.1 254 14 = 0 := by omega
    have hd : 0 < S.1 254 12 := by omega
    have hl := g10 ho
    have hEb := lg_E_bs hG0 hl
    obtain ⟨d, ed⟩ : ∃ d : Nat, S.1 254 12 = (d : Int) + 1 := ⟨(S.1 254 12 - 1).toNat, by omega⟩
    have hb := bs_le hR0 (fun g hg => (h261 g hg).1) (a := d) (b := (d : Int) + 1) (by omega) (by omega) (by omega)
    have hb2 := bs_le hR0 (fun g hg => (h261 g hg).1) (a := (d : Int) + 1) (b := S.1 254 13) (by omega) (by omega) (by omega)
    rw [bs_s] at hb hb2
    have e14 := g14 d (by omega)
    have e15 := (h261 d (by omega)).2
    have e9 : S.1 254 9 = S.1 714 d := by rw [g13, hl, ed, bs_s]; omega
    have hN := (h261 d (by omega)).1
    obtain ⟨c, ec⟩ : ∃ c : Nat, sp_bs (S.1 714) d = (c : Int) := ⟨(sp_bs (S.1 714) d).toNat, by omega⟩
    obtain ⟨m, em⟩ : ∃ m : Nat, S.1 261 d = (m : Int) := ⟨(S.1 261 d).toNat, by omega⟩
    have e9n : (S.1 254 9).toNat = c + m := by omega
    rw [e9n] at hC
    have hmE := hC.1
    have key : ∀ T : ev_St, (∀ k g, 707 ≤ k ∧ k ≤ 715 ∨ (k = 621 ∧ g = 121) → T.1 k g = S.1 k g) → T.1 621 130 = d → ∃ S' T', jm_191 Q S = some (.inl (m : Int), S') ∧ jl_357_64 Q Q (dS D (c + m)) ((c : Int) + m - 1) T = some ((m : Int), T') ∧ lg_C D (lg_E S).toNat c S' T' ∧ lg_fC (ev_pI S 254 12 d) S' ∧ lg_fR T T' := fun T hT hu => by
      have hC1 : lg_C D (lg_E S).toNat (c + m) (ev_pI S 254 12 d) T := lg_C_c hC (fun k g hk => if_neg (by omega)) rfl rfl (fun k g hk => hT k g (by omega))
      have f4 : T.1 714 = S.1 714 := funext fun g => hT 714 g (by omega)
      obtain ⟨S', T', r1, r2, r3, r4, r5⟩ := lg_undos (Q := Q) (by omega) (by omega) (by omega) (d := d) (u := d) (e0 := S.1 714 d) (N := m) (by omega) (by omega) (by omega) m c (ev_pI S 254 12 d) T 0 Q Q (by omega) (by omega) hC1 (by omega) (by omega) rd_eq (by rw [rd_nk (by omega)]; exact em) hu (by rw [f4]; rfl) (by rw [f4]; omega) (by omega)
      refine ⟨S', T', ?_, ?_, r3, r4, r5⟩
      · unfold jm_191
        rw [sp_b, if_neg (by omega), sp_b, if_pos (by omega)]
        unfold jm_5
        rw [sp_b, if_neg (by omega), sp_b, if_pos (by omega), sp_b, sp_ck (by omega), show S.1 254 12 - 1 = (d : Int) from by omega, sp_b, r1, sp_bd]
      · rw [r2, f4, show S.1 714 d - sp_bs (S.1 714) d = (m : Int) from by omega]
    obtain ⟨S', _, p1, _, _, p4, _⟩ := key (ev_pI S 621 130 d) (fun k g hk => if_neg (by omega)) rd_eq
    have fS : ∀ k g, 707 ≤ k ∧ k ≤ 715 ∨ k = 621 → S'.1 k g = S.1 k g := fun k g hk => by
      rw [p4.1 k g (by omega) (by omega) (by omega) (by omega) (by omega), rd_nk (by omega)]
    have fT : ∀ k g, ¬ (k = 621 ∧ (g = 0 ∨ g = 130)) → (ev_pI (ev_pI (ev_pL S' 723 0 (ev_i2l m)) 621 0 0) 621 130 d).1 k g = S'.1 k g := fun k g hk => by
      rw [sp_pI1, if_neg (by omega), sp_pI1, if_neg (by omega)]
      rfl
    obtain ⟨S'', T', q1, q2, q3, q4, q5⟩ := key (ev_pI (ev_pI (ev_pL S' 723 0 (ev_i2l m)) 621 0 0) 621 130 d) (fun k g hk => by rw [fT k g (by omega), fS k g (by omega)]) rd_eq
    have eS : S'' = S' := by
      rw [p1] at q1
      injection q1 with q
      injection q with _ q
      exact q.symm
    subst eS
    have gT : ∀ k g, k ≠ 707 → k ≠ 708 → k ≠ 710 → ¬ (k = 621 ∧ (g = 0 ∨ g = 130)) → T'.1 k g = S''.1 k g := fun k g h1 h2 h3 h4 => by
      rw [q5.1 k g h1 h2 h3, fT k g h4]
    have gS : ∀ k g, ¬ sp_Wu k g → T'.1 k g = S.1 k g := fun k g hw => by
      unfold sp_Wu at hw
      rw [gT k g (by omega) (by omega) (by omega) (by omega), q4.1 k g (by omega) (by omega) (by omega) (by omega) (by omega), sp_pI1, if_neg (by omega)]
    have r2T : T'.2.2 = S.2.2 := by
      have a1 := q5.2
      have a2 := q4.2
      rw [a1]
      show S''.2.2 = S.2.2
      rw [a2]
      rfl
    have t12 : T'.1 254 12 = d := by rw [gT 254 12 (by omega) (by omega) (by omega) (by omega), q4.1 254 12 (by omega) (by omega) (by omega) (by omega) (by omega), rd_eq]
    have t13 : T'.1 254 13 = S.1 254 13 := gS 254 13 (by unfold sp_Wu; omega)
    have t714 : T'.1 714 = S.1 714 := funext fun g => gS 714 g (by unfold sp_Wu; omega)
    have t9 : T'.1 254 9 = c := by rw [gT 254 9 (by omega) (by omega) (by omega) (by omega), q3.2.1.1]
    have t130 : T'.1 621 130 = d := by rw [q5.1 621 130 (by omega) (by omega) (by omega), rd_eq]
    have tE : lg_E T' = lg_E S := by
      rw [hEb]
      unfold lg_E sp_bs
      rw [t12, t13, t714, if_neg (by omega), if_neg (by omega)]
    refine ⟨T', fun K => la_25 (c := 0) (b := (m : Int)) hL hj (lw_25_ok p1) ?_ ?_ (fun _ => ?_), ⟨?_, ?_, ?_, ?_, ?_⟩, ?_⟩
    · obtain ⟨_, _, _, _, _, l4, l5, _⟩ := sp_aln262
      have a130 : (ev_pL S'' 723 0 (ev_i2l m)).1 621 130 = (d : Int) + 1 := by
        show S''.1 621 130 = _
        rw [fS 621 130 (by omega), g1, ed]
      have a132 : (ev_pL S'' 723 0 (ev_i2l m)).1 621 132 = 0 := by
        show S''.1 621 132 = _
        rw [fS 621 132 (by omega), g3, ho]
      unfold jm_357
      simp only [sp_b, sp_jn]
      rw [if_neg (by omega), if_pos (by omega), if_pos (by rw [rd_eq]; omega), rd_nf (by omega), a130, sp_ck (by omega), show (d : Int) + 1 - 1 = d from by omega, rd_eq, sp_if (by rw [l5]; omega), sp_if (by rw [l4]; omega), Int.toNat_natCast]
      rw [fT 715 d (by omega), fT 714 d (by omega), fS 715 d (by omega), fS 714 d (by omega), e15, sp_ck (by omega), show (S.1 714 d).toNat = c + m from by omega, show S.1 714 d - 1 = (c : Int) + m - 1 from by omega]
      exact q2
    · rw [q5.1 621 0 (by omega) (by omega) (by omega), rd_nf (by omega), rd_eq]
    · have := q5.2
      rw [this]
      exact rd_L
    · unfold sp_LR
      rw [t12, t13, t714, t9, t130, gS 621 131 (by unfold sp_Wu; omega), gS 621 132 (by unfold sp_Wu; omega), gS 254 14 (by unfold sp_Wu; omega), gS 621 126 (by unfold sp_Wu; omega), gS 254 11 (by unfold sp_Wu; omega), hl]
      refine ⟨⟨rfl, g2, g3, by omega⟩, ⟨by omega, by omega, g7, by omega, g9⟩, fun _ => rfl, fun z => by omega, fun z => by omega, by omega, fun g hg => ?_⟩
      rw [gS 261 g (by unfold sp_Wu; omega)]
      exact g14 g hg
    · rw [tE, t9, Int.toNat_natCast]
      refine lg_C_c q3 (fun k g hk => gT k g (by omega) (by omega) (by omega) (by omega)) (by rw [q5.2]; rfl) (by unfold ev_sN; rw [q5.2]; rfl) (fun _ _ _ => rfl)
    · rw [tE]
      exact hE
    · rw [tE, gS 621 125 (by unfold sp_Wu; omega), gS 621 128 (by unfold sp_Wu; omega)]
      exact h125
    · intro g hg
      rw [t13] at hg
      rw [t714, gS 261 g (by unfold sp_Wu; omega), gS 715 g (by unfold sp_Wu; omega)]
      exact h261 g hg
    · refine ⟨gS, fun b g hb => ?_, by rw [r2T], by rw [r2T], by rw [r2T], by rw [r2T]; omega, by rw [r2T]; omega⟩
      rw [q5.2]
      show (ev_pL S'' 723 0 (ev_i2l m)).2.1 b g = _
      rw [sp_pL2, if_neg (fun z => hb z.1), q4.2]
      rfl
theorem op_26 (hQ : 1000000 ≤ Q) (hn : n ≤ 512) (hG : LG n D S) (hL : L ≤ 3072) (hj : j + 6 ≤ L) : ∃ S2, (∀ K, ja_1864 Q L xs K S = K S2) ∧ LG n D S2 ∧ sp_F sp_Wu S S2 := by
  have hG0 := hG
  obtain ⟨hR, hC, hE, h125, h261⟩ := hG
  have hR0 := hR
  obtain ⟨⟨g1, g2, g3, g4⟩, ⟨g5, g6, g7, g8, g9⟩, g10, g11, g12, g13, g14⟩ := hR
  by_cases hno : S.1 254 14 ≠ 0 ∨ S.1 254 13 ≤ S.1 254 12
  · refine ⟨_, fun K => la_26 (c := 1) (b := 0) hL hj (lw_26_x0 (sp_192_no hno)) (sp_358_no (S := ev_tick S) (by rw [sp_tick1]; omega)) rd_eq (fun q => by cases q), LG_no hG0, ?_⟩
    exact ⟨fun b g w => (sp_F_no (c := 1)).1 b g (fun q => w (by unfold sp_Wu; unfold sp_Wc at q; omega)), (sp_F_no (c := 1)).2⟩
  · have ho : S.1 254 14 = 0 := by omega
    have hl := g10 ho
    have hEb := lg_E_bs hG0 hl
    obtain ⟨d, ed⟩ : ∃ d : Nat, S.1 254 12 = (d : Int) := ⟨(S.1 254 12).toNat, by omega⟩
    have hb := bs_le hR0 (fun g hg => (h261 g hg).1) (a := d) (b := (d : Int) + 1) (by omega) (by omega) (by omega)
    have hb2 := bs_le hR0 (fun g hg => (h261 g hg).1) (a := (d : Int) + 1) (b := S.1 254 13) (by omega) (by omega) (by omega)
    rw [bs_s] at hb hb2
    have e14 := g14 d (by omega)
    have hN := (h261 d (by omega)).1
    obtain ⟨c, ec⟩ : ∃ c : Nat, sp_bs (S.1 714) d = (c : Int) := ⟨(sp_bs (S.1 714) d).toNat, by omega⟩
    obtain ⟨m, em⟩ : ∃ m : Nat, S.1 261 d = (m : Int) := ⟨(S.1 261 d).toNat, by omega⟩
    have e9 : S.1 254 9 = c := by rw [g13, hl, ed, ec]; omega
    have e9n : (S.1 254 9).toNat = c := by omega
    rw [e9n] at hC
    have key : ∀ T : ev_St, (∀ k g, 707 ≤ k ∧ k ≤ 715 ∨ (k = 621 ∧ g = 121) → T.1 k g = S.1 k g) → T.1 621 130 = d → ∃ S' T', jm_192 Q S = some (.inl (m : Int), ev_pI S' 254 12 ((d : Int) + 1)) ∧ jl_358_82 Q Q (dS D c) (c : Int) T = some ((m : Int), ev_pI T' 621 130 ((d : Int) + 1)) ∧ lg_C D (lg_E S).toNat (c + m) S' T' ∧ lg_fC S S' ∧ lg_fR T T' := fun T hT hu => by
      have hC1 : lg_C D (lg_E S).toNat c S T := lg_C_c hC (fun k g hk => rfl) rfl rfl (fun k g hk => hT k g (by omega))
      have f4 : T.1 714 = S.1 714 := funext fun g => hT 714 g (by omega)
      obtain ⟨S', T', r1, r2, r3, r4, r5⟩ := lg_redos (Q := Q) (by omega) (by omega) (by omega) (d := d) (u := d) (N := m) (by omega) (by omega) (by omega) m c S T 0 Q Q (by omega) (by omega) hC1 (by omega) (by omega) (by omega) ed (by rw [Int.toNat_natCast]; exact em) hu (by rw [f4, Int.toNat_natCast]; omega) (by rw [f4]; omega)
      refine ⟨S', T', ?_, ?_, r3, r4, r5⟩
      · unfold jm_192
        rw [sp_b, if_neg (by omega), sp_b, sp_b, if_pos (by omega)]
        unfold jm_6
        rw [sp_b, if_neg (by omega), sp_b, if_pos (by omega), r1, sp_bd]
      · rw [r2, f4, Int.toNat_natCast, show S.1 714 d - sp_bs (S.1 714) d = (m : Int) from by omega]
    obtain ⟨S', _, p1, _, _, p4, _⟩ := key (ev_pI S 621 130 d) (fun k g hk => if_neg (by omega)) rd_eq
    have fS : ∀ k g, 707 ≤ k ∧ k ≤ 715 ∨ k = 621 → S'.1 k g = S.1 k g := fun k g hk => p4.1 k g (by omega) (by omega) (by omega) (by omega) (by omega)
    have fT : ∀ k g, ¬ (k = 621 ∧ g = 0) → ¬ (k = 254 ∧ g = 12) → (ev_pI (ev_pL (ev_pI S' 254 12 ((d : Int) + 1)) 723 0 (ev_i2l m)) 621 0 0).1 k g = S'.1 k g := fun k g hk hk2 => by
      rw [sp_pI1, if_neg (by omega), sp_pL1, sp_pI1, if_neg (by omega)]
    have g1S : S'.1 621 130 = (d : Int) := by rw [fS 621 130 (by omega), g1, ed]
    obtain ⟨S'', T', q1, q2, q3, q4, q5⟩ := key (ev_pI (ev_pL (ev_pI S' 254 12 ((d : Int) + 1)) 723 0 (ev_i2l m)) 621 0 0) (fun k g hk => by rw [fT k g (by omega) (by omega), fS k g (by omega)]) (by rw [fT 621 130 (by omega) (by omega), g1S])
    have eS : ev_pI S'' 254 12 ((d : Int) + 1) = ev_pI S' 254 12 ((d : Int) + 1) := by
      rw [p1] at q1
      injection q1 with q
      injection q with _ q
      exact q.symm
    have eS1 : ∀ k g, ¬ (k = 254 ∧ g = 12) → S''.1 k g = S'.1 k g := fun k g h => by
      have := congrArg (fun s : ev_St => s.1 k g) eS
      rw [show (ev_pI S'' 254 12 ((d : Int) + 1)).1 k g = S''.1 k g from if_neg h, show (ev_pI S' 254 12 ((d : Int) + 1)).1 k g = S'.1 k g from if_neg h] at this
      exact this
    have gT : ∀ k g, k ≠ 707 → k ≠ 708 → k ≠ 710 → ¬ (k = 621 ∧ (g = 0 ∨ g = 130)) → ¬ (k = 254 ∧ g = 12) → (ev_pI T' 621 130 ((d : Int) + 1)).1 k g = S''.1 k g := fun k g h1 h2 h3 h4 h5 => by
      rw [sp_pI1, if_neg (by omega), q5.1 k g h1 h2 h3, fT k g (by omega) h5, eS1 k g h5]
    have gS : ∀ k g, ¬ sp_Wu k g → (ev_pI T' 621 130 ((d : Int) + 1)).1 k g = S.1 k g := fun k g hw => by
      unfold sp_Wu at hw
      rw [gT k g (by omega) (by omega) (by omega) (by omega) (by omega), q4.1 k g (by omega) (by omega) (by omega) (by omega) (by omega)]
    have r2T : T'.2.2 = S.2.2 := by
      have a1 := q5.2
      have a2 := p4.2
      rw [a1]
      show S'.2.2 = S.2.2
      rw [a2]
    have t12 : (ev_pI T' 621 130 ((d : Int) + 1)).1 254 12 = (d : Int) + 1 := by
      rw [rd_nk (by omega), q5.1 254 12 (by omega) (by omega) (by omega), rd_nk (by omega), sp_pL1, rd_eq]
    have t13 : (ev_pI T' 621 130 ((d : Int) + 1)).1 254 13 = S.1 254 13 := gS 254 13 (by unfold sp_Wu; omega)
    have t714 : (ev_pI T' 621 130 ((d : Int) + 1)).1 714 = S.1 714 := funext fun g => gS 714 g (by unfold sp_Wu; omega)
    have t9 : (ev_pI T' 621 130 ((d : Int) + 1)).1 254 9 = ((c + m : Nat) : Int) := by rw [gT 254 9 (by omega) (by omega) (by omega) (by omega) (by omega), q3.2.1.1]
    have t130 : (ev_pI T' 621 130 ((d : Int) + 1)).1 621 130 = (d : Int) + 1 := rd_eq
    have tE : lg_E (ev_pI T' 621 130 ((d : Int) + 1)) = lg_E S := by
      rw [hEb]
      unfold lg_E sp_bs
      rw [t12, t13, t714, t9]
      by_cases e : (d : Int) + 1 = S.1 254 13
      · rw [if_pos e, if_neg (by omega), show (S.1 254 13 - 1).toNat = d from by omega]
        omega
      · rw [if_neg e, if_neg (by omega)]
    refine ⟨ev_pI T' 621 130 ((d : Int) + 1), fun K => la_26 (c := 0) (b := (m : Int)) hL hj (lw_26_ok p1) ?_ ?_ (fun _ => ?_), ⟨?_, ?_, ?_, ?_, ?_⟩, ?_⟩
    · obtain ⟨_, _, _, _, _, l4, l5, _⟩ := sp_aln262
      have a : ∀ g, (ev_pL (ev_pI S' 254 12 ((d : Int) + 1)) 723 0 (ev_i2l m)).1 621 g = S.1 621 g := fun g => by
        show (ev_pI S' 254 12 ((d : Int) + 1)).1 621 g = _
        rw [rd_nk (by omega), fS 621 g (by omega)]
      have a714 : ∀ g, (ev_pI (ev_pL (ev_pI S' 254 12 ((d : Int) + 1)) 723 0 (ev_i2l m)) 621 0 0).1 714 g = S.1 714 g := fun g => by rw [fT 714 g (by omega) (by omega), fS 714 g (by omega)]
      have a715 : ∀ g, (ev_pI (ev_pL (ev_pI S' 254 12 ((d : Int) + 1)) 723 0 (ev_i2l m)) 621 0 0).1 715 g = S.1 715 g := fun g => by rw [fT 715 g (by omega) (by omega), fS 715 g (by omega)]
      have a130 : (ev_pI (ev_pL (ev_pI S' 254 12 ((d : Int) + 1)) 723 0 (ev_i2l m)) 621 0 0).1 621 130 = d := by rw [rd_nf (by omega), a, g1, ed]
      unfold jm_358
      simp only [sp_b, sp_jn, a]
      rw [if_neg (by omega), if_pos (by omega), if_pos (by rw [rd_eq]; omega)]
      simp only [a130]
      by_cases e0 : (d : Int) = 0
      · rw [if_neg (fun z => z e0), if_neg (fun z => z e0)]
        have c0 : c = 0 := by
          rw [e0] at ec
          have ec : (0 : Int) = c := ec
          omega
        rw [c0] at q2
        rw [show dS D 0 = 0 from hC.2.2.2.2.2.1.1] at q2
        exact q2
      · obtain ⟨d1, ed1⟩ : ∃ d1 : Nat, d = d1 + 1 := ⟨d - 1, by omega⟩
        have e15 := (h261 d1 (by omega)).2
        have ec1 : S.1 714 d1 = c := by
          rw [ed1, show ((d1 + 1 : Nat) : Int) = (d1 : Int) + 1 from by omega, bs_s] at ec
          exact ec
        rw [if_pos e0, sp_ck (by omega), show (d : Int) - 1 = (d1 : Int) from by omega, sp_if (by rw [l5]; omega), if_pos e0, sp_ck (by omega), sp_if (by rw [l4]; omega), Int.toNat_natCast, a715, a714, e15, ec1, Int.toNat_natCast]
        exact q2
    · rw [rd_nf (by omega), q5.1 621 0 (by omega) (by omega) (by omega), rd_eq]
    · show T'.2.1 723 0 = _
      rw [q5.2]
      exact rd_L
    · unfold sp_LR
      rw [t12, t13, t714, t9, t130, gS 621 131 (by unfold sp_Wu; omega), gS 621 132 (by unfold sp_Wu; omega), gS 254 14 (by unfold sp_Wu; omega), gS 621 126 (by unfold sp_Wu; omega), gS 254 11 (by unfold sp_Wu; omega), hl, gS 621 125 (by unfold sp_Wu; omega), gS 621 128 (by unfold sp_Wu; omega), bs_s]
      refine ⟨⟨rfl, g2, g3, by omega⟩, ⟨by omega, by omega, g7, by omega, g9⟩, fun _ => rfl, fun z => by omega, fun z => ?_, by omega, fun g hg => ?_⟩
      · have hx : lg_E S = ((c + m : Nat) : Int) := by
          rw [hEb, ← z, bs_s]
          omega
        rw [h125.1, h125.2, hx, Int.toNat_natCast]
        refine ⟨rfl, ?_⟩
        rw [gT 254 10 (by omega) (by omega) (by omega) (by omega) (by omega), q3.2.1.2.1]
      · rw [gS 261 g (by unfold sp_Wu; omega)]
        exact g14 g hg
    · rw [tE, t9, Int.toNat_natCast]
      refine lg_C_c q3 (fun k g hk => gT k g (by omega) (by omega) (by omega) (by omega) (by omega)) ?_ ?_ (fun k g hk => if_neg (by omega))
      · show T'.2.2.1 = _
        have a1 := q4.2
        rw [show T'.2.2.1 = S.2.2.1 from by rw [r2T], a1]
      · have a1 := q4.2
        unfold ev_sN
        rw [show (ev_pI T' 621 130 ((d : Int) + 1)).2 = T'.2 from rfl, r2T, a1]
    · rw [tE]
      exact hE
    · rw [tE, gS 621 125 (by unfold sp_Wu; omega), gS 621 128 (by unfold sp_Wu; omega)]
      exact h125
    · intro g hg
      rw [t13] at hg
      rw [t714, gS 261 g (by unfold sp_Wu; omega), gS 715 g (by unfold sp_Wu; omega)]
      exact h261 g hg
    · refine ⟨gS, fun b g hb => ?_, by show T'.2.2.1 = _; rw [r2T], by show T'.2.2.2.1 = _; rw [r2T], by show T'.2.2.2.2.1 = _; rw [r2T], by show T'.2.2.2.2.2.1 ≤ _; rw [r2T]; omega, by show T'.2.2.2.2.2.2 ≤ _; rw [r2T]; omega⟩
      show T'.2.1 b g = _
      rw [q5.2]
      show (ev_pL (ev_pI S' 254 12 ((d : Int) + 1)) 723 0 (ev_i2l m)).2.1 b g = _
      rw [sp_pL2, if_neg (fun z => hb z.1)]
      show S'.2.1 b g = _
      rw [p4.2]
end OPSE
