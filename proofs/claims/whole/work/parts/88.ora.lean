/-! ENGINES: what has an end has a beginning, of what threads come to -/
section ORA
variable {P : Nat → T3} {E : Nat → Int → Bool} {X : Nat → SNs} {E1 : Int → Bool} {X1 lv : SNs} {n f k m pc i j r q : Nat} {c c2 d : CPs} {A A2 B : SNs} {ls ls2 rs : LFs} {In : Nat → Int → Prop} {ms : Bool}
def INVc (In : Nat → Int → Prop) (pc : Nat) (c : CPs) : Prop := (∀ g : Nat, In pc (g : Int) → c (2 * g) ≠ -1) ∧ (∀ g : Nat, c (2 * g + 1) ≠ -1 → c (2 * g) ≠ -1) ∧ (∀ j, -1 ≤ c j ∧ c j ≤ 160) ∧ 0 ≤ c 0
def lbP (P : Nat → T3) (n : Nat) (In : Nat → Int → Prop) : Prop := ∀ i, i < n → ∀ g : Int, ((P i).1 = 3 → In (P i).2.1.toNat g → In i g) ∧ ((P i).1 = 2 → In (P i).2.1.toNat g ∨ In (P i).2.2.toNat g → In i g) ∧ ((P i).1 = 0 ∨ (P i).1 = 1 → In (i + 1) g → In i g) ∧ ((P i).1 = 4 → (In (i + 1) g → In i g ∨ (P i).2.1 = 2 * g) ∧ ((P i).2.1 = 2 * g + 1 → In i g))
theorem dfs_lb (hw : wfP P n) (hl : lbP P n In) (hk : k ≤ 160) : ∀ f pc c A, pc < n → INVc In pc c → ∀ q d, (q, d) ∈ (dfs P E1 k f pc c A).1 → INVc In q d := fun f => by
  induction f with
  | zero => exact fun pc c A _ _ q d h => by cases h
  | succ f ih =>
    intro pc c A hp hI q d h
    have w := hw pc hp
    have l := hl pc hp
    rw [dfs_s] at h
    by_cases z : A pc = true
    · rw [if_pos z] at h
      cases h
    · rw [if_neg z] at h
      by_cases o0 : (P pc).1 = 0 ∨ (P pc).1 = 5
      · rw [if_pos o0] at h
        have e : (q, d) = (pc, c) := by simpa using h
        obtain ⟨rfl, rfl⟩ := Prod.mk.inj e
        exact hI
      · rw [if_neg o0] at h
        by_cases o2 : (P pc).1 = 2
        · rw [if_pos o2] at h
          have w2 : (0 ≤ (P pc).2.1 ∧ (P pc).2.1 < n) ∧ (0 ≤ (P pc).2.2 ∧ (P pc).2.2 < n) := by
            rcases w with y | y | y | y | y | y
            · omega
            · omega
            · exact y.2
            · omega
            · omega
            · omega
          rcases List.mem_append.mp h with y | y
          · exact ih _ c _ (by omega) ⟨fun g hg => hI.1 g ((l g).2.1 o2 (Or.inl hg)), hI.2⟩ q d y
          · exact ih _ c _ (by omega) ⟨fun g hg => hI.1 g ((l g).2.1 o2 (Or.inr hg)), hI.2⟩ q d y
        · rw [if_neg o2] at h
          by_cases o3 : (P pc).1 = 3
          · rw [if_pos o3] at h
            have w3 : 0 ≤ (P pc).2.1 ∧ (P pc).2.1 < n := by
              rcases w with y | y | y | y | y | y
              · omega
              · omega
              · omega
              · exact y.2
              · omega
              · omega
            exact ih _ c _ (by omega) ⟨fun g hg => hI.1 g ((l g).1 o3 hg), hI.2⟩ q d h
          · rw [if_neg o3] at h
            have w1 : pc + 1 < n := by
              rcases w with y | y | y | y | y | y <;> omega
            by_cases o4 : (P pc).1 = 4
            · rw [if_pos o4] at h
              have w4 : 2 ≤ (P pc).2.1 ∧ (P pc).2.1 < 20 := by
                rcases w with y | y | y | y | y | y <;> omega
              refine ih _ _ _ w1 ⟨fun g hg => ?_, fun g hg => ?_, fun j => ?_, ?_⟩ q d h
              · unfold putC
                by_cases e : ((2 * g : Nat) : Int) = (P pc).2.1
                · rw [if_pos e]
                  omega
                · rw [if_neg e]
                  rcases ((l g).2.2.2 o4).1 hg with y | y
                  · exact hI.1 g y
                  · exact absurd (show ((2 * g : Nat) : Int) = (P pc).2.1 by omega) e
              · unfold putC at hg ⊢
                by_cases e : ((2 * g : Nat) : Int) = (P pc).2.1
                · rw [if_pos e]
                  omega
                · rw [if_neg e]
                  by_cases e2 : ((2 * g + 1 : Nat) : Int) = (P pc).2.1
                  · exact hI.1 g (((l g).2.2.2 o4).2 (by omega))
                  · rw [if_neg e2] at hg
                    exact hI.2.1 g hg
              · unfold putC
                by_cases e : (j : Int) = (P pc).2.1
                · rw [if_pos e]
                  omega
                · rw [if_neg e]
                  exact hI.2.2.1 j
              · unfold putC
                rw [if_neg (by omega)]
                exact hI.2.2.2
            · rw [if_neg o4] at h
              have o1 : (P pc).1 = 1 := by
                rcases w with y | y | y | y | y | y <;> omega
              by_cases oe : E1 (P pc).2.1 = true
              · rw [if_pos oe] at h
                exact ih _ c _ w1 ⟨fun g hg => hI.1 g ((l g).2.2.1 (Or.inr o1) hg), hI.2⟩ q d h
              · rw [if_neg oe] at h
                cases h
theorem dfsL_lb (hw : wfP P n) (hl : lbP P n In) (hk : k ≤ 160) : ∀ (rs : LFs) (A : SNs), (∀ y, y ∈ rs → y.1 < n ∧ INVc In y.1 y.2) → ∀ q d, (q, d) ∈ (dfsL P E1 k n rs A).1 → INVc In q d := fun rs => by
  induction rs with
  | nil => exact fun A _ q d h => by cases h
  | cons y rs ih =>
    intro A hr q d h
    have h' : (q, d) ∈ (dfs P E1 k n y.1 y.2 A).1 ++ (dfsL P E1 k n rs (dfs P E1 k n y.1 y.2 A).2).1 := h
    rcases List.mem_append.mp h' with z | z
    · obtain ⟨h1, h2⟩ := hr y (List.mem_cons_self ..)
      exact dfs_lb hw hl hk n y.1 y.2 A h1 h2 q d z
    · exact ih _ (fun a ha => hr a (List.mem_cons_of_mem _ ha)) q d z
theorem cut_some : ∀ ls : LFs, (cut P ls).2 = some c → ∃ q, (q, c) ∈ ls := fun ls => by
  induction ls with
  | nil => exact fun h => by cases h
  | cons a ls ih =>
    intro h
    by_cases o5 : (P a.1).1 = 5
    · rw [show cut P (a :: ls) = ([], some a.2) from if_pos o5] at h
      have e : a.2 = c := Option.some.inj h
      exact ⟨a.1, by rw [← e]; exact List.mem_cons_self ..⟩
    · rw [show cut P (a :: ls) = (a :: (cut P ls).1, (cut P ls).2) from if_neg o5] at h
      obtain ⟨q, hq⟩ := ih h
      exact ⟨q, List.mem_cons_of_mem _ hq⟩
theorem suc_mem {y : Nat × CPs} : ∀ ls : LFs, y ∈ suc X1 ls → ∃ a, a ∈ ls ∧ y = (a.1 + 1, a.2) := fun ls => by
  induction ls with
  | nil => exact fun h => by cases h
  | cons a ls ih =>
    intro h
    unfold suc at h
    by_cases z : X1 a.1 = true
    · rw [if_pos z] at h
      rcases List.mem_cons.mp h with w | w
      · exact ⟨a, List.mem_cons_self .., w⟩
      · obtain ⟨b, b1, b2⟩ := ih w
        exact ⟨b, List.mem_cons_of_mem _ b1, b2⟩
    · rw [if_neg z] at h
      obtain ⟨b, b1, b2⟩ := ih h
      exact ⟨b, List.mem_cons_of_mem _ b1, b2⟩
theorem INV_0 (hk : k ≤ 160) (h0 : ∀ g, ¬ In 0 g) : INVc In 0 (c0 k) := by
  refine ⟨fun g hg => absurd hg (h0 _), fun g hg => ?_, fun j => ?_, ?_⟩
  · unfold c0 at hg
    rw [if_neg (by omega)] at hg
    exact absurd rfl hg
  · unfold c0
    split <;> omega
  · unfold c0
    rw [if_pos rfl]
    omega
theorem PK_lb (hw : wfP P n) (h0 : 0 < n) (hl : lbP P n In) (hi : ∀ g, ¬ In 0 g) : ∀ r k rs ms e, k + r ≤ 160 → (∀ y, y ∈ rs → y.1 < n ∧ INVc In y.1 y.2) → PK P n E X lv r k rs ms = some e → (∃ q, INVc In q e.2) ∧ e.1 ≤ k + r := fun r => by
  have roots : ∀ k rs ms, k ≤ 160 → (∀ y, y ∈ rs → y.1 < n ∧ INVc In y.1 y.2) → ∀ y, y ∈ rts k rs ms → y.1 < n ∧ INVc In y.1 y.2 := fun k rs ms hk h y hy => by
    unfold rts at hy
    by_cases z : ms = true
    · rw [if_pos z] at hy
      rcases List.mem_append.mp hy with w | w
      · exact h y w
      · have e : y = (0, c0 k) := by simpa using w
        rw [e]
        exact ⟨h0, INV_0 hk hi⟩
    · rw [if_neg z] at hy
      exact h y hy
  have lf : ∀ k rs ms, k ≤ 160 → (∀ y, y ∈ rs → y.1 < n ∧ INVc In y.1 y.2) → (∀ c, (cut P (flt lv (dfsL P (E k) k n (rts k rs ms) (fun _ => false)).1)).2 = some c → ∃ q, INVc In q c) ∧ ∀ y, y ∈ suc (X k) (cut P (flt lv (dfsL P (E k) k n (rts k rs ms) (fun _ => false)).1)).1 → y.1 < n ∧ INVc In y.1 y.2 := fun k rs ms hk h => by
    have ro := roots k rs ms hk h
    have dl := dfsL_lb (E1 := E k) hw hl hk (rts k rs ms) (fun _ => false) ro
    have dc := (dfsL_cnf (E := E k) (k := k) hw (rts k rs ms) (fun _ => false) (fun y hy => (ro y hy).1)).2
    refine ⟨fun c hc => ?_, fun y hy => ?_⟩
    · obtain ⟨q, hq⟩ := cut_some _ hc
      exact ⟨q, dl q c (flt_mem hq)⟩
    · obtain ⟨a, a1, a2⟩ := suc_mem _ hy
      obtain ⟨b1, b2⟩ := cut_mem a1
      have b3 := flt_mem b1
      have iv := dl a.1 a.2 b3
      obtain ⟨d1, d2⟩ := dc a.1 a.2 b3
      have o0 : (P a.1).1 = 0 := by
        rcases d2 with z | z
        · exact z
        · exact absurd z b2
      rw [a2]
      refine ⟨?_, fun g hg => iv.1 g ((hl a.1 d1 g).2.2.1 (Or.inl o0) hg), iv.2⟩
      rcases hw a.1 d1 with z | z | z | z | z | z
      · exact z.2
      · omega
      · omega
      · omega
      · omega
      · omega
  induction r with
  | zero =>
    intro k rs ms e hk h hp
    obtain ⟨l1, _⟩ := lf k rs ms (by omega) h
    unfold PK at hp
    generalize (cut P (flt lv (dfsL P (E k) k n (rts k rs ms) (fun _ => false)).1)).2 = o at hp l1
    cases o with
    | none => cases hp
    | some c =>
      have e' : (k, c) = e := Option.some.inj hp
      rw [← e']
      exact ⟨l1 c rfl, Nat.le_refl _⟩
  | succ r ih =>
    intro k rs ms e hk h hp
    obtain ⟨l1, l2⟩ := lf k rs ms (by omega) h
    unfold PK at hp
    generalize (cut P (flt lv (dfsL P (E k) k n (rts k rs ms) (fun _ => false)).1)).2 = o at hp l1
    cases o with
    | none =>
      have q := ih (k + 1) _ ms e (by omega) l2 hp
      exact ⟨q.1, by omega⟩
    | some c =>
      have hp' : (match PK P n E X lv r (k + 1) (suc (X k) (cut P (flt lv (dfsL P (E k) k n (rts k rs ms) (fun _ => false)).1)).1) false with
        | some x => some x
        | none => some (k, c)) = some e := hp
      generalize ho2 : PK P n E X lv r (k + 1) (suc (X k) (cut P (flt lv (dfsL P (E k) k n (rts k rs ms) (fun _ => false)).1)).1) false = o2 at hp'
      cases o2 with
      | none =>
        have e' : (k, c) = e := Option.some.inj hp'
        rw [← e']
        exact ⟨l1 c rfl, by omega⟩
      | some u =>
        have e' : u = e := Option.some.inj hp'
        rw [← e']
        have q := ih (k + 1) _ false u (by omega) l2 ho2
        exact ⟨q.1, by omega⟩
end ORA
