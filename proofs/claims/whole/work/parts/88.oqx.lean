/-! ENGINES: trying back on the reference -/
section OQX
variable {Q p n x d i pc f m len st r k j start : Nat} {P : Nat → T3} {E : Nat → Int → Bool} {X : Nat → SNs} {lv A : SNs} {c : CPs} {V W : VSs} {nx : Nat → CPs → VSs → RSs} {S S0 S1 S2 T T0 T1 T2 : ev_St} {a b v : Int} {R : RSs}
theorem RRt_mark (h : RRt n V c T) (hk : k ≤ 80) (hm : ∀ i, T2.1 669 i = if i = 81 * pc + k then 1 else T.1 669 i) (hc : ∀ j, T2.1 672 j = T.1 672 j) : RRt n (onV V k pc) c T2 := by
  refine ⟨fun i k' hi hk' => ?_, fun j h1 h2 => by rw [hc]; exact h.2 j h1 h2⟩
  rw [hm]
  by_cases e : k' = k
  · subst e
    rw [onV_k]
    unfold onB
    by_cases e2 : i = pc
    · rw [if_pos (by omega), if_pos e2]
      rfl
    · rw [if_neg (by omega), if_neg e2]
      exact h.1 i k' hi hk'
  · rw [onV_j e, if_neg (by omega)]
    exact h.1 i k' hi hk'
theorem RCr_step {V1 : VSs} (h1 : ∀ q, jl_314_47 Q (start : Int) ((210 * p : Nat) : Int) (q + 1) ((d + 1 : Nat) : Int) T = jl_314_47 Q (start : Int) ((210 * p : Nat) : Int) q ((d + 1 : Nat) : Int) T2) (h2 : tot n V1 81 + 1 = tot n V 81) (h3 : ∀ i, i < d → T2.1 670 i = T.1 670 i ∧ T2.1 671 i = T.1 671 i) (h : RCr Q p n start T0 d T2 V1 c R) : RCr Q p n start T0 d T V c R := by
  obtain ⟨t, T', t1, t2⟩ := h
  refine ⟨t + 1, T', by omega, ?_⟩
  obtain ⟨R1, R2⟩ := R
  cases R1 with
  | none =>
    obtain ⟨u1, u2, u3, u4⟩ := t2
    exact ⟨fun q => by rw [show q + (t + 1) = q + t + 1 from by omega, h1]; exact u1 q, u2, u3, fun i hi => ⟨(u4 i hi).1.trans (h3 i hi).1, (u4 i hi).2.trans (h3 i hi).2⟩⟩
  | some e =>
    obtain ⟨u1, u2⟩ := t2
    exact ⟨fun q => by rw [show q + (t + 1) = q + t + 1 from by omega, h1]; exact u1 q, u2⟩
theorem rs_dfs (hS : RSt Q p n len P E X T0) (hn : NXk k nx) (hk : k ≤ len) (hnx : k < len → SimR Q p n start T0 (k + 1) nx) : ∀ f pc c V T d, pc < n → cnf (V k) n ≤ f → RRt n V c T → FRq T0 T → T.1 670 d = (pc : Int) → T.1 671 d = (k : Int) → d + tot n V 81 ≤ 39000 → RCr Q p n start T0 d T V c (rnS P (E k) (X k) k nx f pc c V) := fun f => by
  obtain ⟨_, ⟨l73, l80, p12, n210⟩, hX, hXl, _, hw⟩ := id hS
  have skip : ∀ pc c V T d, pc < n → V k pc = true → RRt n V c T → FRq T0 T → T.1 670 d = (pc : Int) → T.1 671 d = (k : Int) → d + tot n V 81 ≤ 39000 → RCr Q p n start T0 d T V c (none, V) := fun pc c V T d hp hV hR hF h1 h2 hb => ⟨1, T, by show 1 + 2 * tot n V 81 ≤ _; omega, fun q => r_skip hS hR hF hp hk h1 h2 (by omega) hV, hR, hF, fun _ _ => ⟨rfl, rfl⟩⟩
  induction f with
  | zero => exact fun pc c V T d hp hc hR hF h1 h2 hb => skip pc c V T d hp (cnf_0 (by omega) hp) hR hF h1 h2 hb
  | succ f ih =>
    intro pc c V T d hp hc hR hF h1 h2 hb
    rw [rnS_s]
    by_cases hV : V k pc = true
    · rw [if_pos hV]
      exact skip pc c V T d hp hV hR hF h1 h2 hb
    · have hV' : V k pc = false := by simpa using hV
      have on := tot_on hV' hp 81 (by omega)
      have con := cnf_on hV' n hp
      have ck : cnf (onV V k pc k) n ≤ f := by rw [onV_k]; omega
      have w' := hw pc hp
      rw [if_neg hV]
      -- the marked state, and what is written upon it
      obtain ⟨T1, hT1⟩ : ∃ T1, T1 = ev_pI (ev_pI T 669 (81 * pc + k) 1) 621 81 (k : Int) := ⟨_, rfl⟩
      have m1 : ∀ i, T1.1 669 i = if i = 81 * pc + k then 1 else T.1 669 i := fun i => by
        rw [hT1, rd_nk (by decide), sp_pI1]
        by_cases e : i = 81 * pc + k
        · rw [if_pos ⟨rfl, e⟩, if_pos e]
        · rw [if_neg (fun z => e z.2), if_neg e]
      have o1 : ∀ c i, ¬ (c = 621 ∧ i = 81) → c ≠ 669 → T1.1 c i = T.1 c i := fun c i y1 y2 => by
        rw [hT1, sp_pI1, if_neg y1]
        try dsimp only
        rw [rd_nk y2]
      have F1 : FRq T0 T1 := FRq_t hF ⟨fun c i y1 y2 => o1 c i y1 (by omega), by rw [hT1]; rfl⟩
      have R1 : RRt n (onV V k pc) c T1 := RRt_mark hR (by omega) m1 (fun j => o1 _ _ (by omega) (by decide))
      have stop : (∀ q, jl_314_47 Q (start : Int) ((210 * p : Nat) : Int) (q + 1) ((d + 1 : Nat) : Int) T = jl_314_47 Q (start : Int) ((210 * p : Nat) : Int) q (d : Int) T1) → RCr Q p n start T0 d T V c (none, onV V k pc) := fun h => ⟨1, T1, by show 1 + 2 * tot n (onV V k pc) 81 ≤ _; omega, h, R1, F1, fun i _ => ⟨o1 _ _ (by omega) (by decide), o1 _ _ (by omega) (by decide)⟩⟩
      -- one entry upon the marked state
      have put : ∀ (u v : Int) (i : Nat) (c' : Nat), (ev_pI (ev_pI T1 670 d u) 671 d v).1 c' i = if c' = 671 ∧ i = d then v else if c' = 670 ∧ i = d then u else T1.1 c' i := fun u v i c' => by
        rw [sp_pI1, sp_pI1]
      have FP : ∀ u v : Int, FRq T0 (ev_pI (ev_pI T1 670 d u) 671 d v) := fun u v => FRq_t F1 ⟨fun c i y1 y2 => by rw [put, if_neg (by omega), if_neg (by omega)], rfl⟩
      have RP : ∀ u v : Int, RRt n (onV V k pc) c (ev_pI (ev_pI T1 670 d u) 671 d v) := fun u v => ⟨fun i k' hi hk' => by rw [put, if_neg (by omega), if_neg (by omega)]; exact R1.1 i k' hi hk', fun j y1 y2 => by rw [put, if_neg (by omega), if_neg (by omega)]; exact R1.2 j y1 y2⟩
      have LP : ∀ (u v : Int) i, i < d → (ev_pI (ev_pI T1 670 d u) 671 d v).1 670 i = T.1 670 i ∧ (ev_pI (ev_pI T1 670 d u) 671 d v).1 671 i = T.1 671 i := fun u v i hi => by
        rw [put, put, if_neg (by omega), if_neg (by omega), if_neg (by omega), if_neg (by omega)]
        exact ⟨o1 _ _ (by omega) (by decide), o1 _ _ (by omega) (by decide)⟩
      have T0' : ∀ u v : Int, (ev_pI (ev_pI T1 670 d u) 671 d v).1 670 d = u ∧ (ev_pI (ev_pI T1 670 d u) 671 d v).1 671 d = v := fun u v => by
        rw [put, put, if_neg (by omega), if_pos ⟨rfl, rfl⟩, if_pos ⟨rfl, rfl⟩]
        exact ⟨rfl, rfl⟩
      by_cases z5 : (P pc).1 = 5
      · rw [if_pos z5]
        refine ⟨1, ev_pI (ev_pI (ev_pI T 669 (81 * pc + k) 1) 679 0 (start : Int)) 680 0 (k : Int), by show 1 + 2 * tot n (onV V k pc) 81 ≤ _; omega, fun q => r_match hS hR hF hp hk h1 h2 (by omega) hV' z5, fun c i y1 y2 y3 => ?_, hF.2, ?_, rd_eq, fun j y1 y2 => ?_, rfl⟩
        · rw [sp_pI1, if_neg (by omega)]
          try dsimp only
          rw [sp_pI1, if_neg (by omega)]
          try dsimp only
          rw [sp_pI1, if_neg (by omega)]
          exact hF.1 c i y1 y2
        · rw [rd_nk (by decide), rd_eq]
        · rw [rd_nk (by decide), rd_nk (by decide), rd_nk (by decide)]
          exact hR.2 j y1 y2
      · rw [if_neg z5]
        by_cases z0 : (P pc).1 = 0
        · rw [if_pos z0]
          have rsg := fun q => r_sign (Q := Q) hS hR hF hp hk h1 h2 (show d < 39500 by omega) hV' z0 (q := q) (start := start)
          rw [← hT1] at rsg
          by_cases zx : X k pc = true
          · rw [if_pos zx]
            have hkl : k < len := Classical.byContradiction fun y => by
              rw [show k = len by omega, hXl] at zx
              cases zx
            have pn : pc + 1 < n := by
              rcases w' with y | y | y | y | y | y <;> omega
            obtain ⟨e1, e2⟩ := T0' ((pc + 1 : Nat) : Int) ((k + 1 : Nat) : Int)
            exact RCr_step (fun q => (rsg q).1 zx) on (LP _ _) (hnx hkl (pc + 1) c (onV V k pc) _ d pn (RP _ _) (FP _ _) e1 e2 (by omega))
          · rw [if_neg zx]
            exact stop (fun q => (rsg q).2 zx)
        · rw [if_neg z0]
          by_cases z2 : (P pc).1 = 2
          · rw [if_pos z2]
            have w2 : (0 ≤ (P pc).2.1 ∧ (P pc).2.1 < n) ∧ (0 ≤ (P pc).2.2 ∧ (P pc).2.2 < n) := by
              rcases w' with y | y | y | y | y | y
              · omega
              · omega
              · exact y.2
              · omega
              · omega
              · omega
            obtain ⟨u, hu⟩ : ∃ u : Nat, (P pc).2.1 = (u : Int) := ⟨(P pc).2.1.toNat, by omega⟩
            obtain ⟨v, hv⟩ : ∃ v : Nat, (P pc).2.2 = (v : Int) := ⟨(P pc).2.2.toNat, by omega⟩
            have rf := fun q => r_fork (Q := Q) hS hR hF hp hk h1 h2 (show d < 39500 by omega) hV' z2 hu hv (q := q) (start := start)
            rw [← hT1] at rf
            rw [hu, hv, Int.toNat_natCast, Int.toNat_natCast]
            obtain ⟨Y, hY⟩ : ∃ Y, Y = ev_pI (ev_pI (ev_pI (ev_pI T1 670 d (v : Int)) 671 d (k : Int)) 670 (d + 1) (u : Int)) 671 (d + 1) (k : Int) := ⟨_, rfl⟩
            rw [← hY] at rf
            have oY : ∀ c i, ¬ ((c = 670 ∨ c = 671) ∧ i = d + 1) → Y.1 c i = (ev_pI (ev_pI T1 670 d (v : Int)) 671 d (k : Int)).1 c i := fun c i y => by
              rw [hY, sp_pI1, if_neg (by omega)]
              try dsimp only
              rw [sp_pI1, if_neg (by omega)]
            have RY : RRt n (onV V k pc) c Y := ⟨fun i k' hi hk' => by rw [oY _ _ (by omega)]; exact (RP _ _).1 i k' hi hk', fun j y1 y2 => by rw [oY _ _ (by omega)]; exact (RP _ _).2 j y1 y2⟩
            have FY : FRq T0 Y := FRq_t (FP (v : Int) (k : Int)) ⟨fun c i y1 y2 => oY c i (by omega), by rw [hY]; rfl⟩
            obtain ⟨t, T', t1, t2⟩ := ih u c (onV V k pc) Y (d + 1) (by omega) ck RY FY (by rw [hY, rd_nk (by decide), rd_eq]) (by rw [hY, rd_eq]) (by omega)
            have bt := bat (P := P) (E1 := E k) (X1 := X k) hn f u c (onV V k pc)
            generalize rnS P (E k) (X k) k nx f u c (onV V k pc) = R at t1 t2 bt ⊢
            obtain ⟨Ra, Rb⟩ := R
            cases Ra with
            | some e =>
              obtain ⟨u1, u2⟩ := t2
              exact ⟨t + 1, T', by show t + 1 + 2 * tot n Rb 81 ≤ _; have t1' : t + 2 * tot n Rb 81 ≤ _ := t1; omega, fun q => by rw [show q + (t + 1) = q + t + 1 from by omega, rf]; exact u1 q, u2⟩
            | none =>
              obtain ⟨u1, u2, u3, u4⟩ := t2
              have t1' : t + 2 * tot n Rb 81 ≤ 1 + 2 * tot n (onV V k pc) 81 := t1
              have bk : Rb k = (dfs P (E k) k f u c (onV V k pc k)).2 := by
                have := bt.2 rfl k
                rw [if_pos rfl] at this
                exact this
              have ck2 : cnf (Rb k) n ≤ f := by
                rw [bk]
                exact Nat.le_trans (cnf_m (fun i hi => dfs_sub f u c _ hi) n) ck
              obtain ⟨a1, a2⟩ := u4 d (by omega)
              rw [oY 670 d (by omega), (T0' (v : Int) (k : Int)).1] at a1
              rw [oY 671 d (by omega), (T0' (v : Int) (k : Int)).2] at a2
              obtain ⟨t', T'', s1, s2⟩ := ih v c Rb T' d (by omega) ck2 u2 u3 a1 a2 (by omega)
              show RCr Q p n start T0 d T V c (rnS P (E k) (X k) k nx f v c Rb)
              generalize rnS P (E k) (X k) k nx f v c Rb = R2 at s1 s2 ⊢
              have run : ∀ q, jl_314_47 Q (start : Int) ((210 * p : Nat) : Int) (q + (t + t' + 1)) ((d + 1 : Nat) : Int) T = jl_314_47 Q (start : Int) ((210 * p : Nat) : Int) (q + t') ((d + 1 : Nat) : Int) T' := fun q => by
                rw [show q + (t + t' + 1) = q + t' + t + 1 from by omega, rf]
                exact u1 (q + t')
              obtain ⟨Rc, Rd⟩ := R2
              have s1' : t' + 2 * tot n Rd 81 ≤ 1 + 2 * tot n Rb 81 := s1
              cases Rc with
              | some e =>
                obtain ⟨v1, v2⟩ := s2
                exact ⟨t + t' + 1, T'', by show t + t' + 1 + 2 * tot n Rd 81 ≤ _; omega, fun q => (run q).trans (v1 q), v2⟩
              | none =>
                obtain ⟨v1, v2, v3, v4⟩ := s2
                refine ⟨t + t' + 1, T'', by show t + t' + 1 + 2 * tot n Rd 81 ≤ _; omega, fun q => (run q).trans (v1 q), v2, v3, fun i hi => ?_⟩
                obtain ⟨b1, b2⟩ := v4 i hi
                obtain ⟨b3, b4⟩ := u4 i (by omega)
                obtain ⟨b5, b6⟩ := LP (v : Int) (k : Int) i hi
                rw [oY _ _ (by omega)] at b3 b4
                exact ⟨b1.trans (b3.trans b5), b2.trans (b4.trans b6)⟩
          · rw [if_neg z2]
            by_cases z3 : (P pc).1 = 3
            · rw [if_pos z3]
              have w3 : 0 ≤ (P pc).2.1 ∧ (P pc).2.1 < n := by
                rcases w' with y | y | y | y | y | y
                · omega
                · omega
                · omega
                · exact y.2
                · omega
                · omega
              obtain ⟨u, hu⟩ : ∃ u : Nat, (P pc).2.1 = (u : Int) := ⟨(P pc).2.1.toNat, by omega⟩
              have rj := fun q => r_jump (Q := Q) hS hR hF hp hk h1 h2 (show d < 39500 by omega) hV' z3 hu (q := q) (start := start)
              rw [← hT1] at rj
              rw [hu, Int.toNat_natCast]
              obtain ⟨e1, e2⟩ := T0' (u : Int) (k : Int)
              exact RCr_step rj on (LP _ _) (ih u c (onV V k pc) _ d (by omega) ck (RP _ _) (FP _ _) e1 e2 (by omega))
            · rw [if_neg z3]
              have w1 : pc + 1 < n := by
                rcases w' with y | y | y | y | y | y <;> omega
              by_cases z4 : (P pc).1 = 4
              · rw [if_pos z4]
                have w4 : 2 ≤ (P pc).2.1 ∧ (P pc).2.1 < 20 := by
                  rcases w' with y | y | y | y | y | y <;> omega
                obtain ⟨u, hu⟩ : ∃ u : Nat, (P pc).2.1 = (u : Int) := ⟨(P pc).2.1.toNat, by omega⟩
                have rv := fun q => r_save (Q := Q) hS hR hF hp hk h1 h2 (show d < 39500 by omega) hV' z4 hu (by omega) (q := q) (start := start)
                rw [hu]
                obtain ⟨Y, hY⟩ : ∃ Y, Y = ev_pI (ev_pI (ev_pI (ev_pI (ev_pI (ev_pI (ev_pI T 669 (81 * pc + k) 1) 670 d (-(u : Int) - 1)) 671 d (T.1 672 u)) 672 u (k : Int)) 621 81 (k : Int)) 670 (d + 1) ((pc + 1 : Nat) : Int)) 671 (d + 1) (k : Int) := ⟨_, rfl⟩
                rw [← hY] at rv
                have oY : ∀ c i, c ≠ 669 → c ≠ 670 → c ≠ 671 → ¬ (c = 672 ∧ i = u) → ¬ (c = 621 ∧ i = 81) → Y.1 c i = T.1 c i := fun c i y1 y2 y3 y4 y5 => by
                  rw [hY, sp_pI1, if_neg (fun z => y3 z.1)]
                  try dsimp only
                  rw [sp_pI1, if_neg (fun z => y2 z.1)]
                  try dsimp only
                  rw [sp_pI1, if_neg y5]
                  try dsimp only
                  rw [sp_pI1, if_neg y4]
                  try dsimp only
                  rw [sp_pI1, if_neg (fun z => y3 z.1)]
                  try dsimp only
                  rw [sp_pI1, if_neg (fun z => y2 z.1)]
                  try dsimp only
                  rw [sp_pI1, if_neg (fun z => y1 z.1)]
                have s9 : ∀ i, Y.1 669 i = if i = 81 * pc + k then 1 else T.1 669 i := fun i => by
                  rw [hY, rd_nk (by decide), rd_nk (by decide), rd_nk (by decide), rd_nk (by decide), rd_nk (by decide), rd_nk (by decide), sp_pI1]
                  by_cases e : i = 81 * pc + k
                  · rw [if_pos ⟨rfl, e⟩, if_pos e]
                  · rw [if_neg (fun z => e z.2), if_neg e]
                have s70 : ∀ i, Y.1 670 i = if i = d + 1 then ((pc + 1 : Nat) : Int) else if i = d then -(u : Int) - 1 else T.1 670 i := fun i => by
                  rw [hY, rd_nk (by decide), sp_pI1, rd_nk (by decide), rd_nk (by decide), rd_nk (by decide), sp_pI1, rd_nk (by decide)]
                  by_cases e : i = d + 1
                  · rw [if_pos ⟨rfl, e⟩, if_pos e]
                  · rw [if_neg (fun z => e z.2), if_neg e]
                    by_cases e2 : i = d
                    · rw [if_pos ⟨rfl, e2⟩, if_pos e2]
                    · rw [if_neg (fun z => e2 z.2), if_neg e2]
                have s71 : ∀ i, Y.1 671 i = if i = d + 1 then (k : Int) else if i = d then T.1 672 u else T.1 671 i := fun i => by
                  rw [hY, sp_pI1, rd_nk (by decide), rd_nk (by decide), rd_nk (by decide), sp_pI1, rd_nk (by decide), rd_nk (by decide)]
                  by_cases e : i = d + 1
                  · rw [if_pos ⟨rfl, e⟩, if_pos e]
                  · rw [if_neg (fun z => e z.2), if_neg e]
                    by_cases e2 : i = d
                    · rw [if_pos ⟨rfl, e2⟩, if_pos e2]
                    · rw [if_neg (fun z => e2 z.2), if_neg e2]
                have s72 : Y.1 672 u = (k : Int) := by
                  rw [hY, rd_nk (by decide), rd_nk (by decide), rd_nk (by decide), rd_eq]
                have FY : FRq T0 Y := FRq_t hF ⟨fun c i y1 y2 => oY c i (by omega) (by omega) (by omega) (by omega) y1, by rw [hY]; rfl⟩
                have mk : RRt n (onV V k pc) c (ev_pI T 669 (81 * pc + k) 1) := RRt_mark hR (by omega) (fun i => by
                  rw [sp_pI1]
                  by_cases e : i = 81 * pc + k
                  · rw [if_pos ⟨rfl, e⟩, if_pos e]
                  · rw [if_neg (fun z => e z.2), if_neg e]) (fun j => rd_nk (by decide))
                have RY : RRt n (onV V k pc) (putC c (u : Int) (k : Int)) Y := by
                  refine ⟨fun i k' hi hk' => ?_, fun j y1 y2 => ?_⟩
                  · rw [s9]
                    have := mk.1 i k' hi hk'
                    rw [sp_pI1] at this
                    by_cases e : 81 * i + k' = 81 * pc + k
                    · rw [if_pos ⟨rfl, e⟩] at this
                      rw [if_pos e]
                      exact this
                    · rw [if_neg (fun z => e z.2)] at this
                      rw [if_neg e]
                      exact this
                  · unfold putC
                    by_cases e : (j : Int) = (u : Int)
                    · rw [if_pos e, show j = u by omega, s72]
                    · rw [if_neg e, oY _ _ (by decide) (by decide) (by decide) (by omega) (by omega)]
                      exact hR.2 j y1 y2
                obtain ⟨t, T', t1, t2⟩ := ih (pc + 1) (putC c (u : Int) (k : Int)) (onV V k pc) Y (d + 1) w1 ck RY FY (by rw [s70, if_pos rfl]) (by rw [s71, if_pos rfl]) (by omega)
                generalize rnS P (E k) (X k) k nx f (pc + 1) (putC c (u : Int) (k : Int)) (onV V k pc) = R at t1 t2 ⊢
                obtain ⟨Ra, Rb⟩ := R
                have t1' : t + 2 * tot n Rb 81 ≤ 1 + 2 * tot n (onV V k pc) 81 := t1
                cases Ra with
                | some e =>
                  obtain ⟨u1, u2, u3, u4, u5, u6, u7⟩ := t2
                  exact ⟨t + 1, T', by show t + 1 + 2 * tot n Rb 81 ≤ _; omega, fun q => by rw [show q + (t + 1) = q + t + 1 from by omega, rv]; exact u1 q, u2, u3, u4, u5, u6, u7.trans (if_neg (by omega))⟩
                | none =>
                  obtain ⟨u1, u2, u3, u4⟩ := t2
                  obtain ⟨a1, a2⟩ := u4 d (by omega)
                  rw [s70, if_neg (by omega), if_pos rfl] at a1
                  rw [s71, if_neg (by omega), if_pos rfl] at a2
                  have old : T'.1 671 d = c u := by
                    rw [a2]
                    exact hR.2 u (by omega) (by omega)
                  refine ⟨t + 2, ev_pI T' 672 u (T'.1 671 d), by show t + 2 + 2 * tot n Rb 81 ≤ _; omega, fun q => ?_, ⟨fun i k' hi hk' => ?_, fun j y1 y2 => ?_⟩, FRq_t u3 ⟨fun c i y1 y2 => by rw [sp_pI1, if_neg (by omega)], rfl⟩, fun i hi => ?_⟩
                  · rw [show q + (t + 2) = q + 1 + t + 1 from by omega, rv]
                    refine (u1 (q + 1)).trans ?_
                    exact r_back a1 (by omega) (by omega)
                  · rw [rd_nk (by decide)]
                    exact u2.1 i k' hi hk'
                  · by_cases e : j = u
                    · rw [e, rd_eq, old]
                    · rw [rd_nf e, u2.2 j y1 y2]
                      exact if_neg (by omega)
                  · obtain ⟨b1, b2⟩ := u4 i (by omega)
                    rw [rd_nk (by decide), rd_nk (by decide), b1, b2, s70, s71, if_neg (by omega)]
                    try dsimp only
                    rw [if_neg (by omega)]
                    try dsimp only
                    rw [if_neg (by omega)]
                    try dsimp only
                    rw [if_neg (by omega)]
                    exact ⟨rfl, rfl⟩
              · rw [if_neg z4]
                have o1' : (P pc).1 = 1 := by
                  rcases w' with y | y | y | y | y | y <;> omega
                have re := fun q => r_edge (Q := Q) hS hR hF hp hk h1 h2 (show d < 39500 by omega) hV' o1' (q := q) (start := start)
                rw [← hT1] at re
                by_cases ze : E k (P pc).2.1 = true
                · rw [if_pos ze]
                  obtain ⟨e1, e2⟩ := T0' ((pc + 1 : Nat) : Int) (k : Int)
                  exact RCr_step (fun q => (re q).1 ze) on (LP _ _) (ih (pc + 1) c (onV V k pc) _ d w1 ck (RP _ _) (FP _ _) e1 e2 (by omega))
                · rw [if_neg ze]
                  exact stop (fun q => (re q).2 ze)
theorem rn_sim (hS : RSt Q p n len P E X T0) : ∀ r k, k + r = len → SimR Q p n start T0 k (rn P n E X (r + 1) k) := fun r => by
  induction r with
  | zero => exact fun k hk pc c V T d hp hR hF h1 h2 hb => rs_dfs hS (rn_N 0 (k + 1) k (Nat.lt_succ_self k)) (by omega) (fun h => by omega) n pc c V T d hp (cnf_le n) hR hF h1 h2 hb
  | succ r ih => exact fun k hk pc c V T d hp hR hF h1 h2 hb => rs_dfs hS (rn_N (r + 1) (k + 1) k (Nat.lt_succ_self k)) (by omega) (fun _ => ih (k + 1) (by omega)) n pc c V T d hp (cnf_le n) hR hF h1 h2 hb
end OQX
