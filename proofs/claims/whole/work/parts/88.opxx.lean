/-! RUNAWAY: what is inner and what runs away, and the climb -/
section OPXX
variable {Q k p N M m n g : Nat} {φ ψ own up : Nat → Nat} {S S0 T T0 U V : ev_St} {W : Nat → FV} {X : Nat → Int} {Mb : Nat → Prop} {a : Int}
theorem lst_ge (hX : mbX N X Mb) : ∀ (n b0 : Nat) (c : Int), mbc Mb b0 c → ∀ s, s ∈ lstC X n c → b0 ≤ s
  | 0, b0, c, _, s, h => by cases h
  | n + 1, b0, c, hc, s, h => by
    rcases hc with z | ⟨v, z, z1, z2⟩
    · rw [lst_0 z] at h
      cases h
    · rw [z, lst_s] at h
      rcases List.mem_cons.mp h with y | y
      · omega
      · have := lst_ge hX n (b0 + 1) (X v) (mbc_n hX z2 z1) s y
        omega
theorem rowIA (hX : mbX N X Mb) (hw : ∀ t, Mb t → 0 ≤ (W (ψ t)).1) : ∀ (n b0 : Nat) (c : Int) (v : FV), mbc Mb b0 c → N ≤ b0 + n → 0 ≤ v.1 → ((chl X (fun v t => rowF v (W (ψ t))) n c v).2.2.2.2.1 a ↔ (v.2.2.2.2.1 a ∧ ∀ t, t ∈ lstC X n c → (W (ψ t)).1 = 0) ∨ (v.1 = 0 ∧ ∃ t, t ∈ lstC X n c ∧ (W (ψ t)).2.2.2.2.1 a ∧ ∀ t', t' ∈ lstC X n c → t' ≠ t → (W (ψ t')).1 = 0)) ∧ ((chl X (fun v t => rowF v (W (ψ t))) n c v).2.2.2.2.2 a ↔ v.2.2.2.2.2 a ∨ ∃ t, t ∈ lstC X n c ∧ (W (ψ t)).2.2.2.2.2 a) := fun n => by
  have nil : ∀ v : FV, (v.2.2.2.2.1 a ↔ (v.2.2.2.2.1 a ∧ ∀ t, t ∈ ([] : List Nat) → (W (ψ t)).1 = 0) ∨ (v.1 = 0 ∧ ∃ t, t ∈ ([] : List Nat) ∧ (W (ψ t)).2.2.2.2.1 a ∧ ∀ t', t' ∈ ([] : List Nat) → t' ≠ t → (W (ψ t')).1 = 0)) ∧ (v.2.2.2.2.2 a ↔ v.2.2.2.2.2 a ∨ ∃ t, t ∈ ([] : List Nat) ∧ (W (ψ t)).2.2.2.2.2 a) := fun v => by
    refine ⟨⟨fun y => Or.inl ⟨y, fun t ht => by cases ht⟩, fun y => ?_⟩, ⟨fun y => Or.inl y, fun y => ?_⟩⟩
    · rcases y with y | ⟨_, t, ht, _⟩
      · exact y.1
      · cases ht
    · rcases y with y | ⟨t, ht, _⟩
      · exact y
      · cases ht
  induction n with
  | zero =>
    intro b0 c v hc hb hv
    rcases hc with z | ⟨u, z, z1, z2⟩
    · exact nil v
    · have := (hX u z2).1
      omega
  | succ n ih =>
    intro b0 c v hc hb hv
    rcases hc with z | ⟨u, z, z1, z2⟩
    · rw [z, lst_0 rfl]
      exact nil v
    · have hu := hw u z2
      have m1 := mlC_i (v.1 + (W (ψ u)).1)
      obtain ⟨i1, i2⟩ := ih (u + 1) (X u) (rowF v (W (ψ u))) (mbc_n hX z2 (Nat.le_refl u)) (by omega) (by show 0 ≤ mlC (v.1 + (W (ψ u)).1); omega)
      have ge : ∀ s, s ∈ lstC X n (X u) → s ≠ u := fun s hs => by
        have := lst_ge hX n (u + 1) (X u) (mbc_n hX z2 (Nat.le_refl u)) s hs
        omega
      have e : chl X (fun v t => rowF v (W (ψ t))) (n + 1) c v = chl X (fun v t => rowF v (W (ψ t))) n (X u) (rowF v (W (ψ u))) := by
        rw [z]
        show (if (u : Int) = -1 then v else _) = _
        rw [if_neg (by omega), Int.toNat_natCast]
      rw [e, z, lst_s]
      have e1 : (rowF v (W (ψ u))).1 = mlC (v.1 + (W (ψ u)).1) := rfl
      have e2 : (rowF v (W (ψ u))).2.2.2.2.1 a = (((W (ψ u)).1 = 0 ∧ v.2.2.2.2.1 a) ∨ (v.1 = 0 ∧ (W (ψ u)).2.2.2.2.1 a)) := rfl
      have e3 : (rowF v (W (ψ u))).2.2.2.2.2 a = (v.2.2.2.2.2 a ∨ (W (ψ u)).2.2.2.2.2 a) := rfl
      rw [e1, e2] at i1
      rw [e3] at i2
      constructor
      · rw [i1]
        constructor
        · rintro (⟨⟨y1, y2⟩ | ⟨y1, y2⟩, y3⟩ | ⟨y1, t, y2, y3, y4⟩)
          · refine Or.inl ⟨y2, fun t ht => ?_⟩
            rcases List.mem_cons.mp ht with w | w
            · rw [w]; exact y1
            · exact y3 t w
          · refine Or.inr ⟨y1, u, List.mem_cons_self, y2, fun t ht hn => ?_⟩
            rcases List.mem_cons.mp ht with w | w
            · exact absurd w hn
            · exact y3 t w
          · refine Or.inr ⟨by omega, t, List.mem_cons_of_mem _ y2, y3, fun t' ht hn => ?_⟩
            rcases List.mem_cons.mp ht with w | w
            · rw [w]; omega
            · exact y4 t' w hn
        · rintro (⟨y1, y2⟩ | ⟨y1, t, y2, y3, y4⟩)
          · exact Or.inl ⟨Or.inl ⟨y2 u List.mem_cons_self, y1⟩, fun t ht => y2 t (List.mem_cons_of_mem _ ht)⟩
          · rcases List.mem_cons.mp y2 with w | w
            · subst w
              exact Or.inl ⟨Or.inr ⟨y1, y3⟩, fun t' ht => y4 t' (List.mem_cons_of_mem _ ht) (ge t' ht)⟩
            · have q := y4 u List.mem_cons_self (fun h => ge t w h.symm)
              exact Or.inr ⟨by omega, t, w, y3, fun t' ht hn => y4 t' (List.mem_cons_of_mem _ ht) hn⟩
      · rw [i2]
        constructor
        · rintro ((y | y) | ⟨t, y1, y2⟩)
          · exact Or.inl y
          · exact Or.inr ⟨u, List.mem_cons_self, y⟩
          · exact Or.inr ⟨t, List.mem_cons_of_mem _ y1, y2⟩
        · rintro (y | ⟨t, y1, y2⟩)
          · exact Or.inl (Or.inl y)
          · rcases List.mem_cons.mp y1 with w | w
            · subst w
              exact Or.inl (Or.inr y2)
            · exact Or.inr ⟨t, w, y2⟩
theorem partIA {K : Int} (hX : mbX N X Mb) : ∀ (n b0 : Nat) (c : Int) (v : Int × FV), mbc Mb b0 c → N ≤ b0 + n → ((chl X (fun v t => partF K v (W (φ t))) n c v).2.2.2.2.2.1 a ↔ v.2.2.2.2.2.1 a ∨ (K < 19 ∧ ∃ t, t ∈ lstC X n c ∧ (W (φ t)).2.2.2.2.1 a)) ∧ ((chl X (fun v t => partF K v (W (φ t))) n c v).2.2.2.2.2.2 a ↔ v.2.2.2.2.2.2 a ∨ (K < 19 ∧ ∃ t, t ∈ lstC X n c ∧ (W (φ t)).2.2.2.2.2 a)) := fun n => by
  have nil : ∀ (v : Int × FV), (v.2.2.2.2.2.1 a ↔ v.2.2.2.2.2.1 a ∨ (K < 19 ∧ ∃ t, t ∈ ([] : List Nat) ∧ (W (φ t)).2.2.2.2.1 a)) ∧ (v.2.2.2.2.2.2 a ↔ v.2.2.2.2.2.2 a ∨ (K < 19 ∧ ∃ t, t ∈ ([] : List Nat) ∧ (W (φ t)).2.2.2.2.2 a)) := fun v => by
    refine ⟨⟨fun y => Or.inl y, fun y => ?_⟩, ⟨fun y => Or.inl y, fun y => ?_⟩⟩
    · rcases y with y | ⟨_, t, ht, _⟩
      · exact y
      · cases ht
    · rcases y with y | ⟨_, t, ht, _⟩
      · exact y
      · cases ht
  induction n with
  | zero =>
    intro b0 c v hc hb
    rcases hc with z | ⟨u, z, z1, z2⟩
    · exact nil v
    · have := (hX u z2).1
      omega
  | succ n ih =>
    intro b0 c v hc hb
    rcases hc with z | ⟨u, z, z1, z2⟩
    · rw [z, lst_0 rfl]
      exact nil v
    · obtain ⟨i1, i2⟩ := ih (b0 + 1) (X u) (partF K v (W (φ u))) (mbc_n hX z2 z1) (by omega)
      have e : chl X (fun v t => partF K v (W (φ t))) (n + 1) c v = chl X (fun v t => partF K v (W (φ t))) n (X u) (partF K v (W (φ u))) := by
        rw [z]
        show (if (u : Int) = -1 then v else _) = _
        rw [if_neg (by omega), Int.toNat_natCast]
      rw [e, z, lst_s]
      have e2 : (partF K v (W (φ u))).2.2.2.2.2.1 a = (v.2.2.2.2.2.1 a ∨ (K < 19 ∧ (W (φ u)).2.2.2.2.1 a)) := rfl
      have e3 : (partF K v (W (φ u))).2.2.2.2.2.2 a = (v.2.2.2.2.2.2 a ∨ (K < 19 ∧ (W (φ u)).2.2.2.2.2 a)) := rfl
      rw [e2] at i1
      rw [e3] at i2
      constructor
      · rw [i1]
        constructor
        · rintro ((y | ⟨y1, y2⟩) | ⟨y1, t, y2, y3⟩)
          · exact Or.inl y
          · exact Or.inr ⟨y1, u, List.mem_cons_self, y2⟩
          · exact Or.inr ⟨y1, t, List.mem_cons_of_mem _ y2, y3⟩
        · rintro (y | ⟨y1, t, y2, y3⟩)
          · exact Or.inl (Or.inl y)
          · rcases List.mem_cons.mp y2 with w | w
            · subst w
              exact Or.inl (Or.inr ⟨y1, y3⟩)
            · exact Or.inr ⟨y1, t, w, y3⟩
      · rw [i2]
        constructor
        · rintro ((y | ⟨y1, y2⟩) | ⟨y1, t, y2, y3⟩)
          · exact Or.inl y
          · exact Or.inr ⟨y1, u, List.mem_cons_self, y2⟩
          · exact Or.inr ⟨y1, t, List.mem_cons_of_mem _ y2, y3⟩
        · rintro (y | ⟨y1, t, y2, y3⟩)
          · exact Or.inl (Or.inl y)
          · rcases List.mem_cons.mp y2 with w | w
            · subst w
              exact Or.inl (Or.inr ⟨y1, y3⟩)
            · exact Or.inr ⟨y1, t, w, y3⟩
abbrev lsN (p : Nat) (T0 : ev_St) (m : Nat) : List Nat := lstC (X0 p T0) 320 (T0.1 626 (320 * p + m))
/-- an atom: what is inner, what runs away -/
theorem ATM (hF : FINX k N M φ ψ own up S0 (sft p T0)) (hw : WQ k N M φ ψ S0 (sft p T0) W M) (hq : ∀ m, m < N → FQ (320 * p) T0 m) (hm : m < N) : (T0.1 625 (320 * p + m) = 18 → ((W (φ m)).2.2.2.2.1 a ↔ ∃ t, t ∈ lsN p T0 m ∧ (W (ψ t)).2.2.2.2.1 a ∧ ∀ t', t' ∈ lsN p T0 m → t' ≠ t → T0.1 641 (320 * p + t') = 0) ∧ ((W (φ m)).2.2.2.2.2 a ↔ ∃ t, t ∈ lsN p T0 m ∧ (W (ψ t)).2.2.2.2.2 a)) ∧ (T0.1 625 (320 * p + m) ≠ 18 → ((W (φ m)).2.2.2.2.1 a ↔ (T0.1 625 (320 * p + m) = 8 ∨ T0.1 625 (320 * p + m) = 9 ∨ T0.1 625 (320 * p + m) = 13) ∧ ∃ t, t ∈ lsN p T0 m ∧ (W (φ t)).2.2.2.2.1 a) ∧ ((W (φ m)).2.2.2.2.2 a ↔ (T0.1 625 (320 * p + m) = 8 ∨ T0.1 625 (320 * p + m) = 9 ∨ T0.1 625 (320 * p + m) = 13) ∧ ∃ t, t ∈ lsN p T0 m ∧ (W (φ t)).2.2.2.2.2 a)) := by
  have h := TREE_of hF
  have hN : N ≤ 320 := hF.2.1.2.2.2
  have lb := LB_all hF hw hq
  obtain ⟨kr, kk⟩ := FINX_K hF hm
  have eK : tK (sft p T0) m = T0.1 625 (320 * p + m) := sft_1 (by omega) (by omega)
  have eC : tC (sft p T0) m = T0.1 626 (320 * p + m) := sft_1 (by omega) (by omega)
  have eX : tX (sft p T0) = X0 p T0 := funext fun t => sft_1 (by omega) (by omega)
  obtain ⟨a1, a2, a3, a4, a5, a6⟩ := (hw.2 m hm).1 (h.1 m hm).1
  have lkX := Kid_X h (m := m)
  have lkC := Kid_C h hm
  rw [eX] at lkX a5 a6
  rw [eC] at lkC a5 a6
  rw [eK] at a1 a2 a3 a4 a5 a6 kr
  have l641 : ∀ t, t ∈ lsN p T0 m → (W (ψ t)).1 = T0.1 641 (320 * p + t) := fun t ht => (lb N t (lst_mb lkX 320 0 _ lkC t ht).1 (by omega)).2.1
  refine ⟨fun z18 => ?_, fun z18 => ?_⟩
  · obtain ⟨r1, r2⟩ := rowIA (a := a) (W := W) (ψ := ψ) lkX (fun t ht => by
      have w1 := (lb N t ht.1 (by omega)).2.1
      have w2 := (hq t ht.1).2.2.2.2.2.1
      unfold fcv at w2
      omega) 320 0 _ zFV lkC (by omega) (Int.le_refl 0)
    rw [a5 z18]
    refine ⟨r1.trans ⟨fun y => ?_, fun y => ?_⟩, r2.trans ⟨fun y => ?_, fun y => Or.inr y⟩⟩
    · rcases y with y | ⟨_, t, y1, y2, y3⟩
      · exact y.1.elim
      · exact ⟨t, y1, y2, fun t' ht hn => by rw [← l641 t' ht]; exact y3 t' ht hn⟩
    · obtain ⟨t, y1, y2, y3⟩ := y
      exact Or.inr ⟨rfl, t, y1, y2, fun t' ht hn => by rw [l641 t' ht]; exact y3 t' ht hn⟩
    · rcases y with y | y
      · exact y.elim
      · exact y
  · by_cases z8 : 8 ≤ T0.1 625 (320 * p + m) ∧ T0.1 625 (320 * p + m) ≤ 13
    · obtain ⟨r1, r2⟩ := partIA (a := a) (W := W) (φ := φ) (K := S0.1 (k + 1) (φ m)) lkX 320 0 _ (0, 1000000, if S0.1 (k + 1) (φ m) = 18 then 2 else 0, noP, noP, noP, noP) lkC (by omega)
      have kc := (kc_n hF hm z8).2
      rw [a6 z8]
      rw [kc] at r1 r2
      refine ⟨r1.trans ⟨fun y => ?_, fun y => Or.inr y⟩, r2.trans ⟨fun y => ?_, fun y => Or.inr y⟩⟩
      · rcases y with y | y
        · exact False.elim y
        · exact y
      · rcases y with y | y
        · exact False.elim y
        · exact y
    · have no : ∀ P : Nat → Prop, ¬ ((T0.1 625 (320 * p + m) = 8 ∨ T0.1 625 (320 * p + m) = 9 ∨ T0.1 625 (320 * p + m) = 13) ∧ ∃ t, t ∈ lsN p T0 m ∧ P t) := fun P y => by omega
      have nI : ¬ (W (φ m)).2.2.2.2.1 a ∧ ¬ (W (φ m)).2.2.2.2.2 a := by
        by_cases z0 : T0.1 625 (320 * p + m) = 0
        · rw [a1 z0]
          exact ⟨fun y => y, fun y => y⟩
        · by_cases z7 : T0.1 625 (320 * p + m) < 7
          · rw [a2 (by omega)]
            exact ⟨fun y => y, fun y => y⟩
          · by_cases y : T0.1 625 (320 * p + m) = 7 ∨ T0.1 625 (320 * p + m) = 14
            · rw [a3 y]
              exact ⟨fun y => y, fun y => y⟩
            · rw [a4 (by omega)]
              exact ⟨fun y => y, fun y => y⟩
      exact ⟨⟨fun y => absurd y nI.1, fun y => absurd y (no _)⟩, ⟨fun y => absurd y nI.2, fun y => absurd y (no _)⟩⟩
end OPXX
