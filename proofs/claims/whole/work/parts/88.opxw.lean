/-! RUNAWAY: atoms: just one sign, inner, away -/
section OPXW
variable {Q k p N M m n g : Nat} {φ ψ own up : Nat → Nat} {S S0 T T0 U V : ev_St} {W : Nat → FV} {X : Nat → Int} {Mb : Nat → Prop} {a : Int}
noncomputable def jP (φ : Nat → Nat) (W : Nat → FV) (a : Int) (m : Nat) : Int := bP ((W (φ m)).2.2.2.1 a)
/-- class's kinds of parts, by the reference's -/
theorem kc_n (hF : FINX k N M φ ψ own up S0 (sft p T0)) (hm : m < N) (z8 : 8 ≤ T0.1 625 (320 * p + m) ∧ T0.1 625 (320 * p + m) ≤ 13) : (S0.1 (k + 1) (φ m) < 20 ↔ kin (T0.1 625 (320 * p + m))) ∧ (S0.1 (k + 1) (φ m) < 19 ↔ (T0.1 625 (320 * p + m) = 8 ∨ T0.1 625 (320 * p + m) = 9 ∨ T0.1 625 (320 * p + m) = 13)) := by
  have eK : tK (sft p T0) m = T0.1 625 (320 * p + m) := sft_1 (by omega) (by omega)
  obtain ⟨kr, kk⟩ := FINX_K hF hm
  rcases kk with ⟨_, y, z⟩ | ⟨_, z⟩
  · rw [eK] at y
    omega
  · rw [z, eK]
    have hc : T0.1 625 (320 * p + m) = 8 ∨ T0.1 625 (320 * p + m) = 9 ∨ T0.1 625 (320 * p + m) = 10 ∨ T0.1 625 (320 * p + m) = 11 ∨ T0.1 625 (320 * p + m) = 12 ∨ T0.1 625 (320 * p + m) = 13 := by omega
    generalize (sft p T0).1 629 (3840 + m) = f
    rcases hc with y | y | y | y | y | y <;> rw [y] <;> by_cases w : f = 0 <;> simp [kcl, kin, w]
theorem noC_n (hF : FINX k N M φ ψ own up S0 (sft p T0)) (hm : m < N) (z18 : T0.1 625 (320 * p + m) ≠ 18) (z8 : ¬ (8 ≤ T0.1 625 (320 * p + m) ∧ T0.1 625 (320 * p + m) ≤ 13)) : T0.1 626 (320 * p + m) = -1 := by
  have eK : tK (sft p T0) m = T0.1 625 (320 * p + m) := sft_1 (by omega) (by omega)
  have eC : tC (sft p T0) m = T0.1 626 (320 * p + m) := sft_1 (by omega) (by omega)
  have q := (hF.1.2.2.2.1.2 m hm).2.2.2
  rw [show (sft p T0).1 625 (3840 + m) = T0.1 625 (320 * p + m) from eK, show (sft p T0).1 626 (3840 + m) = T0.1 626 (320 * p + m) from eC] at q
  exact Classical.byContradiction fun z => z8 ((q z18).mp z)
theorem row_R (hF : FINX k N M φ ψ own up S0 (sft p T0)) (hm : m < N) (h0 : m ≠ 0) (z18 : T0.1 625 (320 * p + m) = 18) : T0.1 630 (320 * p + m) = -1 ∧ φ m = ψ m := by
  have h := TREE_of hF
  have eK : tK (sft p T0) m = T0.1 625 (320 * p + m) := sft_1 (by omega) (by omega)
  have eR : tR (sft p T0) m = T0.1 630 (320 * p + m) := sft_1 (by omega) (by omega)
  have ps := ((h.2.2.1 m hm h0).2 (eK.trans z18)).2
  rw [← eR]
  rcases h.2.2.2.2.2.2.2.2 m hm with ⟨y, _⟩ | ⟨⟨_, y⟩, _⟩ | ⟨⟨_, y⟩, _⟩
  · exact ⟨y, ps⟩
  · exact absurd ps y
  · exact absurd ps y
theorem JQ_of (hF : FINX k N M φ ψ own up S0 (sft p T0)) (hw : WQ k N M φ ψ S0 (sft p T0) W M) (hq : ∀ m, m < N → FQ (320 * p) T0 m) (ha : sp_sign a = 1) : JQ p N T0 a (jP φ W a) := fun m hm => by
  have h := TREE_of hF
  have lb := LB_all hF hw hq
  obtain ⟨kr, kk⟩ := FINX_K hF hm
  have eK : ∀ m, tK (sft p T0) m = T0.1 625 (320 * p + m) := fun m => sft_1 (by omega) (by omega)
  have eC : tC (sft p T0) m = T0.1 626 (320 * p + m) := sft_1 (by omega) (by omega)
  have eX : tX (sft p T0) = X0 p T0 := funext fun t => sft_1 (by omega) (by omega)
  obtain ⟨a1, a2, a3, a4, a5, a6⟩ := (hw.2 m hm).1 (h.1 m hm).1
  have lkX := Kid_X h (m := m)
  have lkC := Kid_C h hm
  rw [eX] at lkX a5 a6
  rw [eC] at lkC a5 a6
  rw [eK] at a1 a2 a3 a4 a5 a6 kr
  have tj : ∀ t, t < N → tv (JIv p T0 (jP φ W a t) t) ((W (ψ t)).2.2.2.1 a) := fun t ht => by
    have q := JIv_p (p := p) (T0 := T0) (t := t) (bP_t (P := (W (φ t)).2.2.2.1 a))
    rw [show ((W (ψ t)).2.2.2.1 a) = ((W (φ t)).2.2.2.1 a ∧ rpc p T0 t) from propext (ITM hF hw hq ht).1]
    exact q
  show bP _ = _
  by_cases z18 : T0.1 625 (320 * p + m) = 18
  · have rel := chl_mem lkX (fun (v : FV) (s : Int × Int × Int) => (0 ≤ v.1 ∧ 0 ≤ s.2.1 ∧ (v.1 = 0 ↔ s.2.1 = 0)) ∧ ((s.2.2 = 0 ∨ s.2.2 = 1 ∨ s.2.2 = 2 ∨ s.2.2 = 3) ∧ (s.2.1 = 0 → s.2.2 = 0 ∨ s.2.2 = 2)) ∧ (v.2.2.2.1 a ↔ (s.2.1 = 0 ∧ s.2.2 = 2) ∨ (s.2.1 = 1 ∧ (s.2.2 = 1 ∨ s.2.2 = 3)))) (F := fun v t => rowF v (W (ψ t))) (G := stI p T0 (T0.1 625 (320 * p + m)) (jP φ W a)) (fun v s t ht ⟨⟨r1, r2, r3⟩, ⟨r4, r5⟩, r6⟩ => by
      have w1 := (lb N t ht.1 (by omega)).2.1
      have w2 := (hq t ht.1).2.2.2.2.2.1
      unfold fcv at w2
      have m1 := mlC_i (v.1 + (W (ψ t)).1)
      obtain ⟨i1, i2, i3, _⟩ := ior_t r4
      have tjt := tj t ht.1
      show (0 ≤ mlC (v.1 + (W (ψ t)).1) ∧ 0 ≤ s.2.1 + (if T0.1 641 (320 * p + t) ≤ 0 then 0 else 1) ∧ (mlC (v.1 + (W (ψ t)).1) = 0 ↔ s.2.1 + (if T0.1 641 (320 * p + t) ≤ 0 then 0 else 1) = 0)) ∧ ((ev_ior s.2.2 (if JIv p T0 (jP φ W a t) t = 0 then 0 else if T0.1 641 (320 * p + t) ≤ 0 then 2 else 1) = 0 ∨ _ ∨ _ ∨ _) ∧ (_ → _ ∨ _)) ∧ ((((W (ψ t)).1 = 0 ∧ v.2.2.2.1 a) ∨ (v.1 = 0 ∧ (W (ψ t)).2.2.2.1 a)) ↔ _)
      show (0 ≤ mlC (v.1 + (W (ψ t)).1) ∧ 0 ≤ s.2.1 + (if T0.1 641 (320 * p + t) ≤ 0 then 0 else 1) ∧ (mlC (v.1 + (W (ψ t)).1) = 0 ↔ s.2.1 + (if T0.1 641 (320 * p + t) ≤ 0 then 0 else 1) = 0)) ∧ ((ev_ior s.2.2 (if JIv p T0 (jP φ W a t) t = 0 then 0 else if T0.1 641 (320 * p + t) ≤ 0 then 2 else 1) = 0 ∨ ev_ior s.2.2 (if JIv p T0 (jP φ W a t) t = 0 then 0 else if T0.1 641 (320 * p + t) ≤ 0 then 2 else 1) = 1 ∨ ev_ior s.2.2 (if JIv p T0 (jP φ W a t) t = 0 then 0 else if T0.1 641 (320 * p + t) ≤ 0 then 2 else 1) = 2 ∨ ev_ior s.2.2 (if JIv p T0 (jP φ W a t) t = 0 then 0 else if T0.1 641 (320 * p + t) ≤ 0 then 2 else 1) = 3) ∧ (s.2.1 + (if T0.1 641 (320 * p + t) ≤ 0 then 0 else 1) = 0 → ev_ior s.2.2 (if JIv p T0 (jP φ W a t) t = 0 then 0 else if T0.1 641 (320 * p + t) ≤ 0 then 2 else 1) = 0 ∨ ev_ior s.2.2 (if JIv p T0 (jP φ W a t) t = 0 then 0 else if T0.1 641 (320 * p + t) ≤ 0 then 2 else 1) = 2)) ∧ ((((W (ψ t)).1 = 0 ∧ v.2.2.2.1 a) ∨ (v.1 = 0 ∧ (W (ψ t)).2.2.2.1 a)) ↔ (s.2.1 + (if T0.1 641 (320 * p + t) ≤ 0 then 0 else 1) = 0 ∧ ev_ior s.2.2 (if JIv p T0 (jP φ W a t) t = 0 then 0 else if T0.1 641 (320 * p + t) ≤ 0 then 2 else 1) = 2) ∨ (s.2.1 + (if T0.1 641 (320 * p + t) ≤ 0 then 0 else 1) = 1 ∧ (ev_ior s.2.2 (if JIv p T0 (jP φ W a t) t = 0 then 0 else if T0.1 641 (320 * p + t) ≤ 0 then 2 else 1) = 1 ∨ ev_ior s.2.2 (if JIv p T0 (jP φ W a t) t = 0 then 0 else if T0.1 641 (320 * p + t) ≤ 0 then 2 else 1) = 3)))
      rw [w1] at m1
      rw [w1]
      generalize mlC (v.1 + T0.1 641 (320 * p + t)) = y1 at m1 ⊢
      generalize T0.1 641 (320 * p + t) = l at *
      generalize s.2.1 = c at *
      generalize s.2.2 = x at *
      generalize v.1 = v1 at *
      rw [r6]
      rcases tjt with ⟨t1, t2⟩ | ⟨t1, t2⟩
      · rw [if_neg (show ¬ (JIv p T0 (jP φ W a t) t = 0) by omega), show ((W (ψ t)).2.2.2.1 a) = True from propext ⟨fun _ => trivial, fun _ => t2⟩]
        by_cases y : l ≤ 0
        · rw [if_pos y, if_pos y, i3]
          clear i1 i2 i3
          rcases r4 with r | r | r | r <;> subst r <;> simp <;> omega
        · rw [if_neg y, if_neg y, i2]
          clear i1 i2 i3
          rcases r4 with r | r | r | r <;> subst r <;> simp <;> omega
      · rw [if_pos t1, show ((W (ψ t)).2.2.2.1 a) = False from propext ⟨fun z => t2 z, fun z => z.elim⟩, i1]
        clear i1 i2 i3
        by_cases y : l ≤ 0
        · rw [if_pos y]
          rcases r4 with r | r | r | r <;> subst r <;> simp <;> omega
        · rw [if_neg y]
          rcases r4 with r | r | r | r <;> subst r <;> simp <;> omega) 320 0 _ zFV (lfI p T0 a m, 0, 0) lkC ⟨⟨Int.le_refl 0, Int.le_refl 0, ⟨fun _ => rfl, fun _ => rfl⟩⟩, ⟨Or.inl rfl, fun _ => Or.inl rfl⟩, ⟨fun y => y.elim, fun y => by rcases y with y | y; exact absurd (show (0 : Int) = 2 from y.2) (by decide); exact absurd (show (0 : Int) = 1 from y.1) (by decide)⟩⟩
    rw [a5 z18]
    generalize chl (X0 p T0) (fun v t => rowF v (W (ψ t))) 320 (T0.1 626 (320 * p + m)) zFV = v at rel
    generalize chl (X0 p T0) (stI p T0 (T0.1 625 (320 * p + m)) (jP φ W a)) 320 (T0.1 626 (320 * p + m)) (lfI p T0 a m, 0, 0) = s at rel
    obtain ⟨⟨r1, r2, r3⟩, ⟨r4, r5⟩, r6⟩ := rel
    obtain ⟨_, _, _, i4⟩ := ior_t r4
    unfold endI
    rw [if_neg (fun y => y z18), i4]
    by_cases y : v.2.2.2.1 a
    · rw [bP_1 y]
      have y2 := r6.mp y
      rcases y2 with ⟨y3, y4⟩ | ⟨y3, y4⟩
      · rw [if_pos ⟨y3, by omega⟩]
      · rw [if_neg (by omega), if_pos ⟨y3, if_pos y4⟩]
    · rw [bP_0 y]
      have y2 : ¬ _ := fun z => y (r6.mpr z)
      rw [if_neg (fun z => y2 (Or.inl ⟨z.1, by have := r5 z.1; omega⟩)), if_neg (fun z => y2 (Or.inr ⟨z.1, by
        by_cases w : s.2.2 = 1 ∨ s.2.2 = 3
        · exact w
        · have := z.2
          rw [if_neg w] at this
          omega⟩))]
  · have en : ∀ s, endI (T0.1 625 (320 * p + m)) s = s.1 := fun s => if_pos z18
    rw [en]
    by_cases z8 : 8 ≤ T0.1 625 (320 * p + m) ∧ T0.1 625 (320 * p + m) ≤ 13
    · have kc := (kc_n hF hm z8).1
      have l0 : lfI p T0 a m = 0 := if_neg (by omega)
      have rel := chl_mem lkX (fun (v : Int × FV) (s : Int × Int × Int) => tv s.1 (v.2.2.2.2.1 a)) (F := fun v t => partF (S0.1 (k + 1) (φ m)) v (W (φ t))) (G := stI p T0 (T0.1 625 (320 * p + m)) (jP φ W a)) (fun v s t ht r1 => by
        have k18 : T0.1 625 (320 * p + t) = 18 := (eK t).symm.trans (ht.2.2.2.mpr (by rw [eK]; omega))
        obtain ⟨_, ps⟩ := row_R hF ht.1 ht.2.1 k18
        have tjt := tj t ht.1
        rw [← ps] at tjt
        show tv (if s.1 ≠ 0 then 1 else if kin (T0.1 625 (320 * p + m)) ∧ JIv p T0 (jP φ W a t) t ≠ 0 then 1 else 0) (v.2.2.2.2.1 a ∨ (S0.1 (k + 1) (φ m) < 20 ∧ (W (φ t)).2.2.2.1 a))
        rcases r1 with ⟨y1, y2⟩ | ⟨y1, y2⟩
        · rw [if_pos (by omega)]
          exact Or.inl ⟨rfl, Or.inl y2⟩
        · rw [if_neg (by omega)]
          by_cases y3 : kin (T0.1 625 (320 * p + m)) ∧ JIv p T0 (jP φ W a t) t ≠ 0
          · rw [if_pos y3]
            refine Or.inl ⟨rfl, Or.inr ⟨kc.mpr y3.1, ?_⟩⟩
            rcases tjt with ⟨_, w⟩ | ⟨w, _⟩
            · exact w
            · exact absurd w y3.2
          · rw [if_neg y3]
            refine Or.inr ⟨rfl, fun z => ?_⟩
            rcases z with z | ⟨z1, z2⟩
            · exact y2 z
            · rcases tjt with ⟨w, _⟩ | ⟨_, w⟩
              · exact y3 ⟨kc.mp z1, by omega⟩
              · exact w z2) 320 0 _ (0, 1000000, if S0.1 (k + 1) (φ m) = 18 then 2 else 0, noP, noP, noP, noP) (lfI p T0 a m, 0, 0) lkC (Or.inr ⟨l0, fun y => False.elim y⟩)
      rw [a6 z8]
      rcases rel with ⟨y1, y2⟩ | ⟨y1, y2⟩
      · rw [y1]
        exact bP_1 y2
      · rw [y1]
        exact bP_0 y2
    · rw [noC_n hF hm z18 z8]
      show _ = lfI p T0 a m
      unfold lfI
      by_cases z0 : T0.1 625 (320 * p + m) = 0
      · have sb : SB (S0.2.1 (k + 8) (φ m)) (S0.2.1 (k + 9) (φ m)) (T0.2.1 633 (320 * p + m)) (T0.2.1 634 (320 * p + m)) := by
          have m0 : m ≠ 0 := fun e => by
            subst e
            rcases kk with ⟨_, y, _⟩ | ⟨y, _⟩
            · rw [eK] at y
              omega
            · exact y rfl
          have q := ((hF.1.1.1 m hm m0).2.1.2.1 (by rw [show (sft p T0).1 625 (3840 + m) = T0.1 625 (320 * p + m) from eK m]; exact z0)).1
          rw [sft_L (by decide) (by decide), sft_L (by decide) (by decide)] at q
          exact q
        rw [a1 z0, if_pos z0]
        show bP (cs _ _ a = 1) = _
        rw [← SB_cs sb ha]
        have c01 : cs (S0.2.1 (k + 8) (φ m)) (S0.2.1 (k + 9) (φ m)) a = 1 ∨ cs (S0.2.1 (k + 8) (φ m)) (S0.2.1 (k + 9) (φ m)) a = 0 := by
          unfold cs
          exact if01
        rcases c01 with y | y
        · rw [bP_1 y, y]
        · rw [bP_0 (by omega), y]
      · rw [if_neg z0]
        by_cases z7 : T0.1 625 (320 * p + m) < 7
        · rw [a2 (by omega)]
          exact bP_0 (fun y => False.elim y)
        · by_cases y : T0.1 625 (320 * p + m) = 7 ∨ T0.1 625 (320 * p + m) = 14
          · rw [a3 y]
            exact bP_0 (fun y => False.elim y)
          · rw [a4 (by omega)]
            exact bP_0 (fun y => False.elim y)
end OPXW
