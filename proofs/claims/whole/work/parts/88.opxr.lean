/-! BEGINS: all marks, and the call -/
section OPXR
variable {Q k p N M m n g L j : Nat} {xs : Nat → Int32} {φ ψ own up : Nat → Nat} {S S0 S2 T T0 U V : ev_St} {W : Nat → FV} {Mb F : Nat → Prop} {a : Int}
def f0M (p : Nat) (T0 : ev_St) (a : Int) (m : Nat) : Prop := (T0.1 625 (320 * p + m) = 0 ∧ rs (T0.2.1 633 (320 * p + m)) (T0.2.1 634 (320 * p + m)) a = 1) ∨ T0.1 625 (320 * p + m) = 7 ∨ T0.1 625 (320 * p + m) = 14
abbrev X0 (p : Nat) (T0 : ev_St) : Nat → Int := fun t => T0.1 627 (320 * p + t)
def MKQ (p N : Nat) (T0 : ev_St) (a : Int) (F : Nat → Prop) : Prop := ∀ m, m < N → (F m ↔ ((chl (X0 p T0) (stp p T0 (T0.1 625 (320 * p + m)) F) 320 (T0.1 626 (320 * p + m)) (f0M p T0 a m, True)).1 ∧ (T0.1 630 (320 * p + m) = -1 ∨ T0.1 632 (320 * p + m) ≠ 0)))
def CHN (p N : Nat) (T0 : ev_St) : Prop := ∀ m, m < N → ∃ Mb : Nat → Prop, mbX N (X0 p T0) Mb ∧ mbc Mb 0 (T0.1 626 (320 * p + m)) ∧ ∀ t, Mb t → m < t
theorem if01 {c : Prop} [Decidable c] : (if c then (1 : Int) else 0) = 1 ∨ (if c then (1 : Int) else 0) = 0 := by
  by_cases z : c
  · exact Or.inl (if_pos z)
  · exact Or.inr (if_neg z)
theorem run276 (hp : p < 12) (hN : N ≤ 320) (hQ : 400 ≤ Q) (ha : sp_sign a = 1) (hch : CHN p N T0) (hF : MKQ p N T0 a F) : ∀ (i q : Nat) (U : ev_St), i < q → i ≤ N → AG0 p T0 U → (∀ t, i ≤ t → t < N → tv (U.1 658 t) (F t)) → ∃ V, jl_276_16 Q a q (320 * (p : Int)) ((i : Int) - 1) U = some ((), V) ∧ (∀ t, t < N → tv (V.1 658 t) (F t)) ∧ (∀ c i, c ≠ 658 → V.1 c i = U.1 c i) ∧ V.2 = U.2 := fun i => by
  obtain ⟨l25, l26, l27, l28, _, l30, l31, l32, l33, l34, _⟩ := al_K
  induction i with
  | zero =>
    intro q U hq _ hU hm
    obtain ⟨q, rfl⟩ : ∃ r, q = r + 1 := ⟨q - 1, by omega⟩
    refine ⟨U, ?_, fun t ht => hm t (Nat.zero_le t) ht, fun _ _ _ => rfl, rfl⟩
    show jb_276_16 Q _ _ _ _ U = _
    unfold jb_276_16
    rw [if_pos (by omega)]
  | succ m ih =>
    intro q U hq hm hU hmk
    obtain ⟨q, rfl⟩ : ∃ r, q = r + 1 := ⟨q - 1, by omega⟩
    have mN : m < N := by omega
    obtain ⟨Mb, hX, hc, hMb⟩ := hch m mN
    have e25 := hU.1 625 m (by omega) (by omega)
    have e26 := hU.1 626 m (by omega) (by omega)
    have e33 := hU.2.1 633 m (by omega) (by omega) (by omega)
    have e34 := hU.2.1 634 m (by omega) (by omega) (by omega)
    obtain ⟨x16, h16⟩ : ∃ x16 : Int, x16 = if T0.1 625 (320 * p + m) = 0 then rs (T0.2.1 633 (320 * p + m)) (T0.2.1 634 (320 * p + m)) a else if T0.1 625 (320 * p + m) = 7 ∨ T0.1 625 (320 * p + m) = 14 then 1 else 0 := ⟨_, rfl⟩
    have rs01 : rs (T0.2.1 633 (320 * p + m)) (T0.2.1 634 (320 * p + m)) a = 1 ∨ rs (T0.2.1 633 (320 * p + m)) (T0.2.1 634 (320 * p + m)) a = 0 := by
      unfold rs
      exact if01
    have t16 : tv x16 (f0M p T0 a m) := by
      unfold f0M
      by_cases y : T0.1 625 (320 * p + m) = 0
      · rw [if_pos y] at h16
        rcases rs01 with w | w
        · exact Or.inl ⟨h16.trans w, Or.inl ⟨y, w⟩⟩
        · exact Or.inr ⟨h16.trans w, fun z => by rcases z with z | z | z; omega; omega; omega⟩
      · rw [if_neg y] at h16
        by_cases w : T0.1 625 (320 * p + m) = 7 ∨ T0.1 625 (320 * p + m) = 14
        · rw [if_pos w] at h16
          exact Or.inl ⟨h16, Or.inr w⟩
        · rw [if_neg w] at h16
          exact Or.inr ⟨h16, fun z => by rcases z with z | z; exact y z.1; exact w z⟩
    have st : ∀ JJ : Int → Int → ev_St → Option (Unit × ev_St), ev_jn JJ (fun K87 => if U.1 625 (320 * p + m) ≠ 0 then (ev_if ((0 : Int) ≤ ((320 * p + m : Nat) : Int) ∧ ((320 * p + m : Nat) : Int) < (ev_aln 625 : Int)) (ev_b (U.1 625 (320 * p + m)) fun x161 => ev_jn (fun (s168 : ev_St) => K87 ((320 * p + m : Nat) : Int) 1 s168) fun K82 => if x161 = 7 then (K82 U) else (ev_if ((0 : Int) ≤ ((320 * p + m : Nat) : Int) ∧ ((320 * p + m : Nat) : Int) < (ev_aln 625 : Int)) (ev_b (U.1 625 (320 * p + m)) fun x170 => if x170 ≠ 14 then (K87 ((320 * p + m : Nat) : Int) 0 U) else (K82 U))))) else (ev_if ((0 : Int) ≤ ((320 * p + m : Nat) : Int) ∧ ((320 * p + m : Nat) : Int) < (ev_aln 633 : Int)) (ev_b (U.2.1 633 (320 * p + m)) fun y172 => ev_if ((0 : Int) ≤ ((320 * p + m : Nat) : Int) ∧ ((320 * p + m : Nat) : Int) < (ev_aln 634 : Int)) (ev_b (U.2.1 634 (320 * p + m)) fun y173 => ev_bd (jm_244 Q y172 y173 a U) fun x175 s174 => K87 ((320 * p + m : Nat) : Int) x175 s174)))) = JJ ((320 * p + m : Nat) : Int) x16 U := fun JJ => by
      rw [sp_jn, e25, h16]
      by_cases y : T0.1 625 (320 * p + m) = 0
      · rw [if_neg (fun z => z y), if_pos y, sp_if (by rw [l33]; omega), sp_b, sp_if (by rw [l34]; omega), sp_b, sp_244 ha, sp_bd, e33, e34]
      · rw [if_pos y, if_neg y, sp_if (by rw [l25]; omega), sp_b, sp_jn]
        by_cases w : T0.1 625 (320 * p + m) = 7
        · rw [if_pos w, if_pos (Or.inl w)]
        · rw [if_neg w, sp_if (by rw [l25]; omega), sp_b]
          by_cases v : T0.1 625 (320 * p + m) = 14
          · rw [if_neg (fun z => z v), if_pos (Or.inr v)]
          · rw [if_pos v, if_neg (by omega)]
    obtain ⟨v, r1, r2⟩ := in276 (Q := Q) (a := a) (K16 := jl_276_16 Q a q) (F := F) hp hX hN mN hU (fun _ _ => rfl) hMb (fun t t1 t2 => hmk t (by omega) t2) 320 0 Q (T0.1 626 (320 * p + m)) x16 1 (f0M p T0 a m, True) (by omega) (by omega) hc t16 (Or.inl ⟨rfl, trivial⟩)
    have t2 : tv v (F m) := by
      rcases r2 with ⟨y, y2⟩ | ⟨y, y2⟩
      · exact Or.inl ⟨y, (hF m mN).mpr y2⟩
      · exact Or.inr ⟨y, fun z => y2 ((hF m mN).mp z)⟩
    obtain ⟨V, s1, s2, s3, s4⟩ := ih q (ev_pI U 658 m v) (by omega) (by omega) ⟨fun c i y1 y2 => by rw [rd_nk (by omega)]; exact hU.1 c i y1 y2, hU.2.1, by rw [rd_nk (by decide)]; exact hU.2.2⟩ (fun t t1 t3 => by
      by_cases e : t = m
      · rw [e, rd_eq]
        exact t2
      · rw [rd_nf e]
        exact hmk t (by omega) t3)
    refine ⟨V, ?_, s2, fun c i y => by rw [s3 c i y, rd_nk y], s4⟩
    rw [← s1, ← r1]
    show jb_276_16 Q _ _ _ _ U = _
    unfold jb_276_16
    rw [show ((m + 1 : Nat) : Int) - 1 = (m : Int) from by omega, if_neg (by omega), sp_ck (by omega), show 320 * (p : Int) + (m : Int) = ((320 * p + m : Nat) : Int) from by omega, sp_if (by rw [l25]; omega), sp_b, Int.toNat_natCast, st]
    try dsimp only
    rw [sp_if (by rw [l26]; omega), sp_b, Int.toNat_natCast, e26]
theorem CHN_of (hF : FINX k N M φ ψ own up S0 (sft p T0)) : CHN p N T0 := fun m hm => by
  have h := TREE_of hF
  have eX : tX (sft p T0) = X0 p T0 := funext fun t => sft_1 (by omega) (by omega)
  have eC : tC (sft p T0) m = T0.1 626 (320 * p + m) := sft_1 (by omega) (by omega)
  refine ⟨Kid N up (sft p T0) m, by rw [← eX]; exact Kid_X h, by rw [← eC]; exact Kid_C h hm, fun t ht => UP_lt hF ht.1 ht.2.1 ht.2.2.1⟩
theorem all_s (ha : sp_sign a = 1) : allP a := by
  have h : ∀ n : Fin 127, sp_sign (n.val : Int) = 1 → cs (-4294966272) 9223372036854775807 (n.val : Int) = 1 := by decide +kernel
  have r : 0 ≤ a ∧ a < 127 := by
    unfold sp_sign at ha
    by_cases y : a = 10 ∨ (32 ≤ a ∧ a ≤ 126)
    · omega
    · rw [if_neg y] at ha
      cases ha
  have q := h ⟨a.toNat, by omega⟩
  have e : ((a.toNat : Nat) : Int) = a := by omega
  rw [show (((⟨a.toNat, by omega⟩ : Fin 127).val : Nat) : Int) = a from e] at q
  exact q ha
/-- the class's first signs satisfy the equations of the reference's marks -/
theorem MKQ_of (hF : FINX k N M φ ψ own up S0 (sft p T0)) (hw : WQ k N M φ ψ S0 (sft p T0) W M) (hq : ∀ m, m < N → FQ (320 * p) T0 m) (ha : sp_sign a = 1) : MKQ p N T0 a (fun m => (W (ψ m)).2.2.1 a) := fun m hm => by
  have h := TREE_of hF
  have hB := TB_of hF
  have lb := LB_all hF hw hq
  obtain ⟨kr, kk⟩ := FINX_K hF hm
  have eK : tK (sft p T0) m = T0.1 625 (320 * p + m) := sft_1 (by omega) (by omega)
  have eC : tC (sft p T0) m = T0.1 626 (320 * p + m) := sft_1 (by omega) (by omega)
  have eX : tX (sft p T0) = X0 p T0 := funext fun t => sft_1 (by omega) (by omega)
  have eR : tR (sft p T0) m = T0.1 630 (320 * p + m) := sft_1 (by omega) (by omega)
  have eH : tH (sft p T0) m = T0.1 632 (320 * p + m) := sft_1 (by omega) (by omega)
  obtain ⟨a1, a2, a3, a4, a5, a6⟩ := (hw.2 m hm).1 (h.1 m hm).1
  have lkX := Kid_X h (m := m)
  have lkC := Kid_C h hm
  rw [eX] at lkX a5 a6
  rw [eC] at lkC a5 a6
  have noC : T0.1 625 (320 * p + m) ≠ 18 → ¬ (8 ≤ T0.1 625 (320 * p + m) ∧ T0.1 625 (320 * p + m) ≤ 13) → T0.1 626 (320 * p + m) = -1 := fun z18 z8 => by
    have q := (hF.1.2.2.2.1.2 m hm).2.2.2
    rw [show (sft p T0).1 625 (3840 + m) = T0.1 625 (320 * p + m) from eK, show (sft p T0).1 626 (3840 + m) = T0.1 626 (320 * p + m) from eC] at q
    exact Classical.byContradiction fun z => z8 ((q z18).mp z)
  have nil : ∀ s : Prop × Prop, T0.1 626 (320 * p + m) = -1 → chl (X0 p T0) (stp p T0 (T0.1 625 (320 * p + m)) (fun m => (W (ψ m)).2.2.1 a)) 320 (T0.1 626 (320 * p + m)) s = s := fun s z => by
    rw [z]
    rfl
  have atom : (W (φ m)).2.2.1 a ↔ (chl (X0 p T0) (stp p T0 (T0.1 625 (320 * p + m)) (fun m => (W (ψ m)).2.2.1 a)) 320 (T0.1 626 (320 * p + m)) (f0M p T0 a m, True)).1 := by
    rw [eK] at a1 a2 a3 a4 a5 a6 kr
    by_cases z18 : T0.1 625 (320 * p + m) = 18
    · have f0 : ¬ f0M p T0 a m := fun y => by
        unfold f0M at y
        omega
      have rel := chl_mem lkX (fun (v : FV) (s : Prop × Prop) => ((v.2.2.1 a ↔ s.1) ∧ (v.1 = 0 ↔ s.2)) ∧ 0 ≤ v.1) (F := fun v t => rowF v (W (ψ t))) (G := stp p T0 (T0.1 625 (320 * p + m)) (fun m => (W (ψ m)).2.2.1 a)) (fun v s t ht ⟨⟨r1, r2⟩, r3⟩ => by
        have w1 := (lb N t ht.1 (by omega)).2.1
        have w2 := (hq t ht.1).2.2.2.2.2.1
        unfold fcv at w2
        have m1 := mlC_i (v.1 + (W (ψ t)).1)
        refine ⟨⟨?_, ?_⟩, ?_⟩
        · show (v.2.2.1 a ∨ (v.1 = 0 ∧ (W (ψ t)).2.2.1 a)) ↔ (s.1 ∨ (((T0.1 625 (320 * p + m) = 18 ∧ s.2) ∨ (T0.1 625 (320 * p + m) ≠ 18 ∧ _)) ∧ (W (ψ t)).2.2.1 a))
          rw [r1, r2]
          constructor
          · rintro (y | ⟨y1, y2⟩)
            · exact Or.inl y
            · exact Or.inr ⟨Or.inl ⟨z18, y1⟩, y2⟩
          · rintro (y | ⟨⟨_, y1⟩ | ⟨y1, _⟩, y2⟩)
            · exact Or.inl y
            · exact Or.inr ⟨y1, y2⟩
            · exact absurd z18 y1
        · show mlC (v.1 + (W (ψ t)).1) = 0 ↔ (s.2 ∧ T0.1 641 (320 * p + t) = 0)
          rw [← r2]
          omega
        · show 0 ≤ mlC (v.1 + (W (ψ t)).1)
          omega) 320 0 _ zFV (f0M p T0 a m, True) lkC ⟨⟨⟨fun y => y.elim, fun y => absurd y f0⟩, ⟨fun _ => trivial, fun _ => rfl⟩⟩, Int.le_refl 0⟩
      rw [a5 z18]
      exact rel.1.1
    · by_cases z8 : 8 ≤ T0.1 625 (320 * p + m) ∧ T0.1 625 (320 * p + m) ≤ 13
      · have kc : S0.1 (k + 1) (φ m) < 20 ↔ (T0.1 625 (320 * p + m) = 8 ∨ T0.1 625 (320 * p + m) = 9 ∨ T0.1 625 (320 * p + m) = 10 ∨ T0.1 625 (320 * p + m) = 13) := by
          rcases kk with ⟨_, y, z⟩ | ⟨_, z⟩
          · rw [eK] at y
            omega
          · rw [z, eK]
            have hc : T0.1 625 (320 * p + m) = 8 ∨ T0.1 625 (320 * p + m) = 9 ∨ T0.1 625 (320 * p + m) = 10 ∨ T0.1 625 (320 * p + m) = 11 ∨ T0.1 625 (320 * p + m) = 12 ∨ T0.1 625 (320 * p + m) = 13 := by omega
            generalize (sft p T0).1 629 (3840 + m) = f
            rcases hc with y | y | y | y | y | y <;> rw [y] <;> by_cases w : f = 0 <;> simp [kcl, w]
        have f0 : ¬ f0M p T0 a m := fun y => by
          unfold f0M at y
          omega
        have rel := chl_mem lkX (fun (v : Int × FV) (s : Prop × Prop) => v.2.2.2.1 a ↔ s.1) (F := fun v t => partF (S0.1 (k + 1) (φ m)) v (W (φ t))) (G := stp p T0 (T0.1 625 (320 * p + m)) (fun m => (W (ψ m)).2.2.1 a)) (fun v s t ht r1 => by
          have k18 : tK (sft p T0) t = 18 := ht.2.2.2.mpr (by rw [eK]; omega)
          have ps := ((h.2.2.1 t ht.1 ht.2.1).2 k18).2
          show (v.2.2.2.1 a ∨ (S0.1 (k + 1) (φ m) < 20 ∧ (W (φ t)).2.2.1 a)) ↔ (s.1 ∨ (((T0.1 625 (320 * p + m) = 18 ∧ s.2) ∨ (T0.1 625 (320 * p + m) ≠ 18 ∧ _)) ∧ (W (ψ t)).2.2.1 a))
          rw [r1, kc, ps]
          constructor
          · rintro (y | ⟨y1, y2⟩)
            · exact Or.inl y
            · exact Or.inr ⟨Or.inr ⟨z18, y1⟩, y2⟩
          · rintro (y | ⟨⟨y1, _⟩ | ⟨_, y1⟩, y2⟩)
            · exact Or.inl y
            · exact absurd y1 z18
            · exact Or.inr ⟨y1, y2⟩) 320 0 _ (0, 1000000, if S0.1 (k + 1) (φ m) = 18 then 2 else 0, noP, noP, noP, noP) (f0M p T0 a m, True) lkC ⟨fun y => False.elim y, fun y => absurd y f0⟩
        rw [a6 z8]
        exact rel
      · rw [nil _ (noC z18 z8)]
        show _ ↔ f0M p T0 a m
        unfold f0M
        by_cases z0 : T0.1 625 (320 * p + m) = 0
        · have sb : SB (S0.2.1 (k + 8) (φ m)) (S0.2.1 (k + 9) (φ m)) (T0.2.1 633 (320 * p + m)) (T0.2.1 634 (320 * p + m)) := by
            have m0 : m ≠ 0 := fun e => by
              subst e
              rcases kk with ⟨_, y, _⟩ | ⟨y, _⟩
              · rw [eK] at y
                omega
              · exact y rfl
            have q := ((hF.1.1.1 m hm m0).2.1.2.1 (by rw [show (sft p T0).1 625 (3840 + m) = T0.1 625 (320 * p + m) from eK]; exact z0)).1
            rw [sft_L (by decide) (by decide), sft_L (by decide) (by decide)] at q
            exact q
          rw [a1 z0]
          show cs _ _ a = 1 ↔ _
          rw [SB_cs sb ha]
          exact ⟨fun y => Or.inl ⟨z0, y⟩, fun y => by rcases y with y | y | y; exact y.2; omega; omega⟩
        · by_cases z7 : T0.1 625 (320 * p + m) < 7
          · rw [a2 (by omega)]
            exact ⟨fun y => False.elim y, fun y => by omega⟩
          · by_cases y : T0.1 625 (320 * p + m) = 7 ∨ T0.1 625 (320 * p + m) = 14
            · rw [a3 y]
              exact ⟨fun _ => Or.inr y, fun _ => all_s ha⟩
            · rw [a4 (by omega)]
              exact ⟨fun y => False.elim y, fun y => by omega⟩
  show (W (ψ m)).2.2.1 a ↔ _
  rw [← atom]
  rcases h.2.2.2.2.2.2.2.2 m hm with ⟨z, e⟩ | ⟨⟨z, _⟩, _⟩ | ⟨⟨z, _⟩, _⟩
  · rw [e]
    exact ⟨fun y => ⟨y, Or.inl (eR.symm.trans z)⟩, fun y => y.1⟩
  · have w := (hw.2 m hm).2.1 (h.1 m hm).2.1 z
    have z2 : T0.1 630 (320 * p + m) = 0 ∨ T0.1 630 (320 * p + m) = 1 := by
      rw [← eR]
      exact z
    rw [w]
    show (tH (sft p T0) m ≠ 0 ∧ (W (φ m)).2.2.1 a) ↔ _
    rw [eH]
    exact ⟨fun y => ⟨y.2, Or.inr y.1⟩, fun y => ⟨y.2.resolve_left (by omega), y.1⟩⟩
  · have z2 : T0.1 630 (320 * p + m) = 2 := by
      rw [← eR]
      exact z
    obtain ⟨x, y, hx, hy⟩ := TREE_2 h hm z
    obtain ⟨p1, p2, p3, _⟩ := (TREE_r h hm).2 z x y hx hy
    obtain ⟨w1, w2, w3⟩ := (hw.2 m hm).2.2 z x y hx hy
    have pm := (h.1 m hm).2.1
    rw [w3 pm, w2 (by omega), w1 (by omega)]
    show (False ∨ ((19 : Int) < 20 ∧ (False ∨ ((0 : Int) = 0 ∧ (tH (sft p T0) m ≠ 0 ∧ (W (φ m)).2.2.1 a))))) ↔ _
    rw [eH]
    constructor
    · rintro (y | ⟨_, y | ⟨_, y1, y2⟩⟩)
      · exact y.elim
      · exact y.elim
      · exact ⟨y2, Or.inr y1⟩
    · rintro ⟨y1, y2⟩
      exact Or.inr ⟨by decide, Or.inr ⟨rfl, y2.resolve_left (by omega), y1⟩⟩
end OPXR
