/-! FRAMES: how much calls can gain in all -/
section OQJ
variable {N m t u v a b c g g0 k l : Nat} {kd ch nx rp : Nat → Int} {up y f h tg X : Nat → Nat}
noncomputable def pcN (N : Nat) (kd nx rp : Nat → Int) (up tg : Nat → Nat) (v : Nat) : Nat := if 0 < (beN N kd nx rp up tg) v then 1 else 0
theorem b_core (hF : FRM N kd ch nx rp up y tg) (hb : b ≤ N) (he : ∃ v, a ≤ v ∧ v < b ∧ 0 < (beN N kd nx rp up tg) v) : ∃ v0, a ≤ v0 ∧ v0 < b ∧ 0 < (beN N kd nx rp up tg) v0 ∧ ∀ u, a ≤ u → u < b → 0 < (beN N kd nx rp up tg) u → tg u ≤ tg v0 ∧ ¬ (tg v0 < u ∧ u < zE up N (tg v0)) := by
  obtain ⟨w, w1, w2, w3⟩ := he
  obtain ⟨v0, v1, ⟨v2, v3, v4⟩, v5⟩ := mx_ex (h := tg) (p := fun v => a ≤ v ∧ v < b ∧ 0 < (beN N kd nx rp up tg) v) N ⟨w, by omega, w1, w2, w3⟩
  refine ⟨v0, v2, v3, v4, fun u u1 u2 u3 => ?_⟩
  have l := v5 u (by omega) ⟨u1, u2, u3⟩
  have bu := b_pos hF (show u < N by omega) u3
  have b0 := b_pos hF v1 v4
  refine ⟨l, fun z => ?_⟩
  have ou := bu.2.2.2.2.2.2.1
  by_cases e : tg u = tg v0
  · rw [e] at ou
    exact ou z
  · have p1 := bu.2.2.2.2.2.2.2.2.2
    have p2 := b0.2.2.2.2.2.2.2.2.2
    have q := nest (a := tg u) (b := tg v0) hF (by omega) b0.2.2.2.1 (by omega)
    exact ou ⟨by omega, by omega⟩
/-- the weights of what stands side by side -/
theorem b_sum (hF : FRM N kd ch nx rp up y tg) (hab : a ≤ b) (hb : b ≤ N) (h0 : g0 < N) (hn : g0 ≠ 0) (hk : kd g0 = 8) (hc : ∀ u, a ≤ u → u < b → 0 < (beN N kd nx rp up tg) u → ¬ (g0 < u ∧ u < zE up N g0)) (hX : ∀ v, v < N → X v ≤ wN kd v ∧ (X v ≠ 0 → ¬ (g0 ≤ v ∧ v < zE up N g0) ∧ ¬ (a ≤ v ∧ v < b ∧ 0 < (beN N kd nx rp up tg) v))) : sg X 0 N + sg (wN kd) (g0 + 1) (zE up N g0) + 2 + sg (pcN N kd nx rp up tg) a b ≤ 159 := by
  have zg := zE_in (up := up) h0
  have q := W_all (f := fun v => (fun v => (fun v => X v + inI (g0 + 1) (zE up N g0) (wN kd) v) v + inI g0 (g0 + 1) (fun _ => 2) v) v + inI a b (pcN N kd nx rp up tg) v) hF (fun v hv => by
    obtain ⟨x1, x2⟩ := hX v hv
    show X v + inI (g0 + 1) (zE up N g0) (wN kd) v + inI g0 (g0 + 1) (fun _ => 2) v + inI a b (pcN N kd nx rp up tg) v ≤ wN kd v
    have third : ¬ (a ≤ v ∧ v < b ∧ 0 < (beN N kd nx rp up tg) v) → inI a b (pcN N kd nx rp up tg) v = 0 := fun z => by
      unfold inI
      by_cases y1 : a ≤ v ∧ v < b
      · rw [if_pos y1]
        exact if_neg (fun y2 => z ⟨y1.1, y1.2, y2⟩)
      · exact if_neg y1
    by_cases y1 : g0 + 1 ≤ v ∧ v < zE up N g0
    · rw [show inI (g0 + 1) (zE up N g0) (wN kd) v = wN kd v from if_pos y1, show inI g0 (g0 + 1) (fun _ => 2) v = 0 from if_neg (by omega), third (fun z => hc v z.1 z.2.1 z.2.2 ⟨by omega, y1.2⟩)]
      have : X v = 0 := Classical.byContradiction fun z => (x2 z).1 ⟨by omega, y1.2⟩
      omega
    · rw [show inI (g0 + 1) (zE up N g0) (wN kd) v = 0 from if_neg y1]
      by_cases y2 : v = g0
      · subst y2
        rw [show inI v (v + 1) (fun _ => 2) v = 2 from if_pos ⟨Nat.le_refl v, Nat.lt_succ_self v⟩, third (fun z => by
          have := (b_pos hF hv z.2.2).2.1
          omega), w_g hn hk]
        have : X v = 0 := Classical.byContradiction fun z => (x2 z).1 ⟨Nat.le_refl v, zg.1⟩
        omega
      · rw [show inI g0 (g0 + 1) (fun _ => 2) v = 0 from if_neg (by omega)]
        by_cases y3 : a ≤ v ∧ v < b ∧ 0 < (beN N kd nx rp up tg) v
        · have bp := b_pos hF hv y3.2.2
          have w1 := w_it (kd := kd) (v := v) ⟨bp.1, by rw [bp.2.1]; decide⟩
          have : X v = 0 := Classical.byContradiction fun z => (x2 z).2 y3
          have e1 : inI a b (pcN N kd nx rp up tg) v = pcN N kd nx rp up tg v := if_pos ⟨y3.1, y3.2.1⟩
          have e2 : pcN N kd nx rp up tg v = 1 := if_pos y3.2.2
          omega
        · rw [third y3]
          omega)
  rw [sg_2 (Nat.zero_le _), sg_2 (Nat.zero_le _), sg_2 (Nat.zero_le _), sg_in (Nat.zero_le _) (show g0 + 1 ≤ zE up N g0 from zg.1) zg.2.1, sg_pt (Nat.zero_le _) h0, sg_in (Nat.zero_le _) hab hb] at q
  exact q
theorem b_8 (hF : FRM N kd ch nx rp up y tg) (hv : v < N) (hb : 0 < (beN N kd nx rp up tg) v) : sg (wN kd) (tg v + 1) (zE up N (tg v)) ≤ 156 ∧ (beN N kd nx rp up tg) v ≤ 8 := by
  have bp := b_pos hF hv hb
  have q := b_sum (a := v) (b := v + 1) (X := fun _ => 0) (g0 := tg v) hF (Nat.le_succ v) hv bp.2.2.2.1 bp.2.2.2.2.1 bp.2.2.2.2.2.1 (fun u u1 u2 _ => by
    obtain rfl : u = v := by omega
    exact bp.2.2.2.2.2.2.1) (fun u _ => ⟨Nat.zero_le _, fun z => absurd rfl z⟩)
  rw [sg_1, show pcN N kd nx rp up tg v = 1 from if_pos hb] at q
  have p := bp.2.2.2.2.2.2.2.2.2.2
  have w : sg (wN kd) (tg v + 1) (zE up N (tg v)) ≤ 156 := by omega
  refine ⟨w, ?_⟩
  rw [bp.2.2.2.2.2.2.2.2.1]
  exact Nat.le_trans (bf_m (show _ ≤ 304 by omega)) (by decide)
theorem b_k {c : Nat} (hab : a ≤ b) (h1 : ∀ u, a ≤ u → u < b → 0 < (beN N kd nx rp up tg) u → (beN N kd nx rp up tg) u ≤ c) : sg (beN N kd nx rp up tg) a b ≤ c * sg (pcN N kd nx rp up tg) a b := sg_le hab (fun u u1 u2 => by
  by_cases z : 0 < (beN N kd nx rp up tg) u
  · rw [show pcN N kd nx rp up tg u = 1 from if_pos z]
    have := h1 u u1 u2 z
    omega
  · omega)
theorem b_all (hF : FRM N kd ch nx rp up y tg) : sg (beN N kd nx rp up tg) 0 N ≤ 16 := by
  by_cases he : ∃ v, 0 ≤ v ∧ v < N ∧ 0 < (beN N kd nx rp up tg) v
  · obtain ⟨v0, v1, v2, v3, v4⟩ := b_core hF (Nat.le_refl N) he
    have b0 := b_pos hF v2 v3
    have p1 := b0.2.2.2.2.2.2.2.2.2.1
    have p2 := b0.2.2.2.2.2.2.2.2.2.2
    by_cases hA : ∀ u, u < N → 0 < (beN N kd nx rp up tg) u → tg u = tg v0
    · have s := b_k (N := N) (kd := kd) (nx := nx) (rp := rp) (up := up) (tg := tg) (a := 0) (b := N) (c := bf (sg (pN kd nx rp) (tg v0 + 1) (zE up N (tg v0)))) (Nat.zero_le _) (fun u _ u2 u3 => by
        have := (b_pos hF u2 u3).2.2.2.2.2.2.2.2.1
        rw [hA u u2 u3] at this
        rw [this]
        exact Nat.le_refl _)
      have q := b_sum (a := 0) (b := N) (X := fun _ => 0) (g0 := tg v0) hF (Nat.zero_le _) (Nat.le_refl N) b0.2.2.2.1 b0.2.2.2.2.1 b0.2.2.2.2.2.1 (fun u _ u2 u3 => (v4 u (Nat.zero_le _) u2 u3).2) (fun u _ => ⟨Nat.zero_le _, fun z => absurd rfl z⟩)
      have k4 : sg (pcN N kd nx rp up tg) 0 N ≤ 4 := by omega
      have bb := bf_m (show sg (pN kd nx rp) (tg v0 + 1) (zE up N (tg v0)) ≤ 306 - 2 * sg (pcN N kd nx rp up tg) 0 N by omega)
      refine Nat.le_trans s ?_
      generalize sg (pcN N kd nx rp up tg) 0 N = K at k4 bb ⊢
      refine Nat.le_trans (Nat.mul_le_mul_right K bb) ?_
      have : K = 0 ∨ K = 1 ∨ K = 2 ∨ K = 3 ∨ K = 4 := by omega
      rcases this with z | z | z | z | z <;> (rw [z]; decide)
    · have s := b_k (N := N) (kd := kd) (nx := nx) (rp := rp) (up := up) (tg := tg) (a := 0) (b := N) (c := 8) (Nat.zero_le _) (fun u _ u2 u3 => (b_8 hF u2 u3).2)
      obtain ⟨u1, hu⟩ := Classical.not_forall.mp hA
      have u2 : u1 < N := Classical.byContradiction fun z => hu (fun y => absurd y z)
      have u3 : 0 < (beN N kd nx rp up tg) u1 := Classical.byContradiction fun z => hu (fun _ y => absurd y z)
      have u4 : tg u1 ≠ tg v0 := fun z => hu (fun _ _ => z)
      have bu := b_pos hF u2 u3
      have l := (v4 u1 (Nat.zero_le _) u2 u3).1
      have q := b_sum (a := 0) (b := N) (X := inI (tg u1) (tg u1 + 1) (fun _ => 2)) (g0 := tg v0) hF (Nat.zero_le _) (Nat.le_refl N) b0.2.2.2.1 b0.2.2.2.2.1 b0.2.2.2.2.2.1 (fun u _ u2 u3 => (v4 u (Nat.zero_le _) u2 u3).2) (fun u hu2 => by
        by_cases e : u = tg u1
        · rw [e, w_g bu.2.2.2.2.1 bu.2.2.2.2.2.1]
          refine ⟨?_, fun _ => ⟨by omega, fun z => ?_⟩⟩
          · unfold inI
            rw [if_pos ⟨Nat.le_refl _, Nat.lt_succ_self _⟩]
            exact Nat.le_refl 2
          · have z1 := (b_pos hF bu.2.2.2.1 z.2.2).2.1
            have z2 := bu.2.2.2.2.2.1
            omega
        · have : inI (tg u1) (tg u1 + 1) (fun _ => 2) u = 0 := if_neg (by omega)
          rw [this]
          exact ⟨Nat.zero_le _, fun z => absurd rfl z⟩)
      rw [sg_pt (Nat.zero_le _) bu.2.2.2.1] at q
      omega
  · rw [sg_z (f := (beN N kd nx rp up tg)) (Nat.zero_le _) (fun v v1 v2 => Classical.byContradiction fun z => he ⟨v, v1, v2, Nat.pos_of_ne_zero z⟩)]
    exact Nat.zero_le _
/-- what stands within a part that is called from outside -/
theorem b_in (hF : FRM N kd ch nx rp up y tg) (hm : m < N) (m0 : m ≠ 0) (h14 : kd m = 14) (hcg : cg N kd nx rp up (tg m)) (hl : sg (lpN N kd nx rp up tg) (tg m + 1) (zE up N (tg m)) = 0) : sg (pN kd nx rp) (tg m + 1) (zE up N (tg m)) + sg (beN N kd nx rp up tg) (tg m + 1) (zE up N (tg m)) ≤ 297 + bc N kd nx rp up tg m := by
  obtain ⟨t1, t2⟩ := hF.2.2.2.2 m hm m0 h14
  rw [bc_1 ⟨h14, hcg, hl⟩]
  obtain ⟨g, hg⟩ : ∃ g, g = tg m := ⟨_, rfl⟩
  rw [← hg] at t1 t2 hl hcg ⊢
  have zg := zE_in (up := up) t1
  have out : ¬ (g < m ∧ m < zE up N g) := fun z => by
    have l1 : (lpN N kd nx rp up tg) m = 1 := lpN_1 ⟨m0, h14, by rw [← hg]; exact hcg, by rw [← hg]; exact z⟩
    have := sg_mem (f := (lpN N kd nx rp up tg)) (a := g + 1) (b := zE up N g) (v := m) z.1 z.2
    omega
  have g0 : g ≠ 0 := fun z => by
    rw [z, tr_0 hF.1] at out
    omega
  have g8 : kd g = 8 := by
    rcases t2 with z | z
    · exact absurd z g0
    · exact z
  have zle : g + 1 ≤ zE up N g := zg.1
  by_cases he : ∃ v, g + 1 ≤ v ∧ v < zE up N g ∧ 0 < (beN N kd nx rp up tg) v
  · by_cases hP : sg (pN kd nx rp) (g + 1) (zE up N g) ≤ 281
    · have := b_all hF
      have := sg_sub (f := (beN N kd nx rp up tg)) (Nat.zero_le (g + 1)) zle zg.2.1
      omega
    · have hW := P_W hF t1 (by omega)
      -- each target lies within
      have tin : ∀ u, g + 1 ≤ u → u < zE up N g → 0 < (beN N kd nx rp up tg) u → g < tg u ∧ tg u < zE up N g ∧ zE up N (tg u) ≤ zE up N g := fun u u1 u2 u3 => by
        have bu := b_pos hF (show u < N by omega) u3
        have p2 := bu.2.2.2.2.2.2.2.2.2
        have ou := bu.2.2.2.2.2.2.1
        by_cases e1 : tg u = g
        · rw [e1] at ou
          exact absurd ⟨by omega, u2⟩ ou
        · by_cases e2 : tg u < g
          · have q := nest (a := tg u) (b := g) hF e2 t1 (by omega)
            exact absurd ⟨by omega, by omega⟩ ou
          · have q := nest (a := g) (b := tg u) hF (by omega) bu.2.2.2.1 (by omega)
            exact ⟨by omega, q.1, q.2⟩
      have hXX : ∀ (w a b : Nat), g < w → w < zE up N g → zE up N w ≤ zE up N g → g + 1 ≤ a → b ≤ zE up N g → ∀ v, v < N → (fun v => inI g (g + 1) (fun _ => 2) v + inI m (m + 1) (fun _ => 1) v) v ≤ wN kd v ∧ ((fun v => inI g (g + 1) (fun _ => 2) v + inI m (m + 1) (fun _ => 1) v) v ≠ 0 → ¬ (w ≤ v ∧ v < zE up N w) ∧ ¬ (a ≤ v ∧ v < b ∧ 0 < (beN N kd nx rp up tg) v)) := fun w a b w1 w2 w3 a1 b1 v hv => by
        show inI g (g + 1) (fun _ => 2) v + inI m (m + 1) (fun _ => 1) v ≤ wN kd v ∧ (inI g (g + 1) (fun _ => 2) v + inI m (m + 1) (fun _ => 1) v ≠ 0 → _)
        by_cases e1 : v = g
        · subst e1
          have : v ≠ m := fun e => by
            rw [e, h14] at g8
            exact absurd g8 (by decide)
          rw [show inI v (v + 1) (fun _ => 2) v = 2 from if_pos ⟨Nat.le_refl v, Nat.lt_succ_self v⟩, show inI m (m + 1) (fun _ => 1) v = 0 from if_neg (by omega), w_g g0 g8]
          exact ⟨Nat.le_refl 2, fun _ => ⟨by omega, by omega⟩⟩
        · rw [show inI g (g + 1) (fun _ => 2) v = 0 from if_neg (by omega)]
          by_cases e2 : v = m
          · subst e2
            rw [show inI v (v + 1) (fun _ => 1) v = 1 from if_pos ⟨Nat.le_refl v, Nat.lt_succ_self v⟩]
            have := w_it (kd := kd) (v := v) ⟨m0, by rw [h14]; decide⟩
            exact ⟨by omega, fun _ => ⟨by omega, by omega⟩⟩
          · rw [show inI m (m + 1) (fun _ => 1) v = 0 from if_neg (by omega)]
            exact ⟨Nat.zero_le _, fun z => absurd rfl z⟩
      have sX : sg (fun v => inI g (g + 1) (fun _ => 2) v + inI m (m + 1) (fun _ => 1) v) 0 N = 3 := by
        rw [sg_2 (Nat.zero_le _), sg_pt (Nat.zero_le _) t1, sg_pt (Nat.zero_le _) hm]
      have one : ∀ u, g + 1 ≤ u → u < zE up N g → 0 < (beN N kd nx rp up tg) u → (beN N kd nx rp up tg) u ≤ 1 := fun u u1 u2 u3 => by
        have bu := b_pos hF (show u < N by omega) u3
        have ti := tin u u1 u2 u3
        have q := b_sum (a := u) (b := u + 1) (g0 := tg u) hF (Nat.le_succ u) (by omega) bu.2.2.2.1 bu.2.2.2.2.1 bu.2.2.2.2.2.1 (fun w w1 w2 _ => by
          obtain rfl : w = u := by omega
          exact bu.2.2.2.2.2.2.1) (hXX (tg u) u (u + 1) ti.1 ti.2.1 ti.2.2 u1 u2)
        rw [sX, sg_1, show pcN N kd nx rp up tg u = 1 from if_pos u3] at q
        have p2 := bu.2.2.2.2.2.2.2.2.2
        rw [bu.2.2.2.2.2.2.2.2.1]
        exact Nat.le_trans (bf_m (show _ ≤ 298 by omega)) (by decide)
      have s := b_k (N := N) (kd := kd) (nx := nx) (rp := rp) (up := up) (tg := tg) zle one
      obtain ⟨v0, v1, v2, v3, v4⟩ := b_core hF zg.2.1 he
      have b0 := b_pos hF (show v0 < N by omega) v3
      have p2 := b0.2.2.2.2.2.2.2.2.2
      have ti := tin v0 v1 v2 v3
      have q := b_sum (a := g + 1) (b := zE up N g) (g0 := tg v0) hF zle zg.2.1 b0.2.2.2.1 b0.2.2.2.2.1 b0.2.2.2.2.2.1 (fun u u1 u2 u3 => (v4 u u1 u2 u3).2) (hXX (tg v0) (g + 1) (zE up N g) ti.1 ti.2.1 ti.2.2 (Nat.le_refl _) (Nat.le_refl _))
      rw [sX] at q
      -- the inner group's own
      have z0 := zE_in (up := up) b0.2.2.2.1
      have s1 := sg_sub (f := (pN kd nx rp)) (show g + 1 ≤ tg v0 by omega) (show tg v0 ≤ zE up N (tg v0) by omega) ti.2.2
      rw [sg_h z0.1] at s1
      have m0' := sg_mem (f := mN kd nx rp) (show g + 1 ≤ tg v0 by omega) ti.2.1
      rw [hcg.2] at m0'
      have pu : pur kd nx rp (tg v0) := Classical.byContradiction fun z => by
        have : mN kd nx rp (tg v0) = 1 := if_pos ⟨⟨b0.2.2.2.2.1, by rw [b0.2.2.2.2.2.1]; decide⟩, z⟩
        omega
      have pg : pN kd nx rp (tg v0) = bN nx (tg v0) + hN kd (tg v0) := if_pos pu
      have hg2 : hN kd (tg v0) = 2 := if_pos b0.2.2.2.2.2.1
      have : bf (sg (pN kd nx rp) (g + 1) (zE up N g)) = sg (pN kd nx rp) (g + 1) (zE up N g) - 296 := if_neg (by omega)
      omega
  · rw [sg_z (f := (beN N kd nx rp up tg)) zle (fun v v1 v2 => Classical.byContradiction fun z => he ⟨v, v1, v2, Nat.pos_of_ne_zero z⟩)]
    unfold bf
    by_cases z : sg (pN kd nx rp) (g + 1) (zE up N g) < 300
    · rw [if_pos z]
      omega
    · rw [if_neg z]
      omega
/-- how much any part holds -/
theorem q_bd (hF : FRM N kd ch nx rp up y tg) (hm : m < N) : sg (pN kd nx rp) (m + 1) (zE up N m) + sg (beN N kd nx rp up tg) (m + 1) (zE up N m) + min 4 (sg (imN kd nx rp) (m + 1) (zE up N m)) + 2 * wN kd m ≤ 326 := by
  have zm := zE_in (up := up) hm
  have zle : m + 1 ≤ zE up N m := zm.1
  have b1 := b_all hF
  have b2 := sg_sub (f := (beN N kd nx rp up tg)) (Nat.zero_le (m + 1)) zle zm.2.1
  have w1 := sg_sub (f := (wN kd)) (Nat.zero_le m) (Nat.le_of_lt zm.1) zm.2.1
  rw [sg_h zm.1] at w1
  have w2 := hF.2.2.2.1
  have w3 : wN kd m ≤ 2 := by
    unfold wN itN g8N
    (repeat' split) <;> omega
  rcases P_bd2 (rp := rp) hF.1 hF.2.1 hm hF.2.2.1 with z | z <;> omega
end OQJ
