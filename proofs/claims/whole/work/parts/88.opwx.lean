/-! PROGRAMS: code is no longer than the size that is told -/
section PROG7
variable {Q k g b e N M m t p o : Nat} {X : Nat → Int} {f φ ψ own up lo : Nat → Nat} {Mb : Nat → Prop} {S T U V W : ev_St} {CA CI St : Nat → List INS}
theorem chl_lst {α : Type} {F : α → Nat → α} : ∀ (n : Nat) (c : Int) (a : α), chl X F n c a = (lstC X n c).foldl F a
  | 0, c, a => rfl
  | n + 1, c, a => by
    unfold chl lstC
    by_cases z : c = -1
    · rw [if_pos z, if_pos z]
      rfl
    · rw [if_neg z, if_neg z, chl_lst n]
      rfl
theorem fcR_sum : ∀ (l : List Nat) (a : Int × Int × Int × Int), (l.foldl (fcR o T) a).2.2.1 = a.2.2.1 + (l.map fun t => T.1 643 (o + t)).sum ∧ (l.foldl (fcR o T) a).2.2.2 = a.2.2.2 + (l.length : Int)
  | [], a => by simp
  | t :: l, a => by
    have q := fcR_sum l (fcR o T a t)
    rw [List.foldl_cons, q.1, q.2, List.map_cons, List.sum_cons, List.length_cons]
    show a.2.2.1 + T.1 643 (o + t) + _ = _ ∧ a.2.2.2 + 1 + _ = _
    omega
theorem sum_le {F : Nat → Int} : ∀ (l : List Nat), (∀ t, t ∈ l → 0 ≤ F t) → 0 ≤ (l.map F).sum ∧ ∀ t, t ∈ l → F t ≤ (l.map F).sum
  | [], _ => ⟨by simp, fun t h => by cases h⟩
  | u :: l, h => by
    have q := sum_le (F := F) l (fun t ht => h t (List.mem_cons_of_mem _ ht))
    have hu := h u List.mem_cons_self
    rw [List.map_cons, List.sum_cons]
    refine ⟨by omega, fun t ht => ?_⟩
    rcases List.mem_cons.mp ht with z | z
    · rw [z]
      omega
    · have := q.2 t z
      omega
theorem sum_len {F : Nat → Int} {G : Nat → List INS} : ∀ (l : List Nat), (∀ t, t ∈ l → ((G t).length : Int) ≤ F t) → (((l.map G).map List.length).sum : Int) ≤ (l.map F).sum
  | [], _ => by simp
  | u :: l, h => by
    have q := sum_len (F := F) (G := G) l (fun t ht => h t (List.mem_cons_of_mem _ ht))
    have hu := h u List.mem_cons_self
    rw [List.map_cons, List.map_cons, List.sum_cons, List.map_cons, List.sum_cons, Int.natCast_add]
    omega
theorem SZ_all (hF : FINX k N M φ ψ own up S (sft p T)) (hq : ∀ m, m < N → FQ (320 * p) T m) (hok : ∀ m, m < N → okR (320 * p + m) T) (hC : CDQ k N φ S (sft p T) CA CI) : ∀ n m, m < N → N ≤ m + n → (T.1 642 (320 * p + m) ≤ 200 → ((CA m).length : Int) ≤ T.1 642 (320 * p + m)) ∧ (T.1 643 (320 * p + m) ≤ 200 → ((CI m).length : Int) ≤ T.1 643 (320 * p + m)) := fun n => by
  have h := TREE_of hF
  have hB := TB_of hF
  induction n with
  | zero => intro m h1 h2; omega
  | succ n ih =>
    intro m hm hn
    obtain ⟨q1, q2, q3, q4, q5⟩ := hq m hm
    obtain ⟨b1, b2, b3, b4⟩ := fcG_b hB hm (fun t a c => (hq t c).2.2.2.2)
    obtain ⟨c1, c2, c3, c4, c5, c6, c7, c8⟩ := hC m hm
    have eK : tK (sft p T) m = T.1 625 (320 * p + m) := sft_1 (by omega) (by omega)
    have eC : tC (sft p T) m = T.1 626 (320 * p + m) := sft_1 (by omega) (by omega)
    have eX : tX (sft p T) = fun t => T.1 627 (320 * p + t) := funext fun t => sft_1 (by omega) (by omega)
    have eR : tR (sft p T) m = T.1 630 (320 * p + m) := sft_1 (by omega) (by omega)
    have eL : tL (sft p T) m = T.1 631 (320 * p + m) := sft_1 (by omega) (by omega)
    have eH : tH (sft p T) m = T.1 632 (320 * p + m) := sft_1 (by omega) (by omega)
    obtain ⟨o1, o2, o3⟩ := hok m hm
    obtain ⟨l, hl⟩ : ∃ l, l = lstC (tX (sft p T)) 320 (tC (sft p T) m) := ⟨_, rfl⟩
    have hml : ∀ t, t ∈ l → Kid N up (sft p T) m t := fun t ht => lst_mb (Kid_X h) 320 0 _ (Kid_C h hm) t (by rw [← hl]; exact ht)
    have gs : (fcG (320 * p) T m).2.2.1 = (l.map fun t => T.1 643 (320 * p + t)).sum ∧ (fcG (320 * p) T m).2.2.2 = (l.length : Int) := by
      unfold fcG
      rw [chl_lst]
      have q := fcR_sum (o := 320 * p) (T := T) (lstC (fun t => T.1 627 (320 * p + t)) 320 (T.1 626 (320 * p + m))) (-1, 0, 0, 0)
      have e : l = lstC (fun t => T.1 627 (320 * p + t)) 320 (T.1 626 (320 * p + m)) := by rw [hl, eX, eC]
      rw [e]
      refine ⟨q.1.trans ?_, q.2.trans ?_⟩
      · show (0 : Int) + _ = _
        omega
      · show (0 : Int) + _ = _
        omega
    have nn : ∀ t, t ∈ l → 0 ≤ T.1 643 (320 * p + t) := fun t ht => (hq t (hml t ht).1).2.2.2.2.2.2.2.1
    have sl := sum_le (F := fun t => T.1 643 (320 * p + t)) l nn
    have kids : (fcG (320 * p) T m).2.2.1 ≤ 200 → (((l.map CI).map List.length).sum : Int) ≤ (fcG (320 * p) T m).2.2.1 := fun hs => by
      rw [gs.1] at hs ⊢
      exact sum_len l fun t ht => by
        have kt := hml t ht
        have lt := UP_lt hF kt.1 kt.2.1 kt.2.2.1
        exact (ih t kt.1 (by omega)).2 (by have := sl.2 t ht; omega)
    have flat : ((l.map CI).flatten).length = ((l.map CI).map List.length).sum := List.length_flatten
    have its0 : 0 ≤ fits (T.1 625 (320 * p + m)) (fcG (320 * p) T m).2.2.1 (fcG (320 * p) T m).2.2.2 := by
      unfold fits
      (repeat' split) <;> omega
    obtain ⟨its, hits⟩ : ∃ its, its = fits (T.1 625 (320 * p + m)) (fcG (320 * p) T m).2.2.1 (fcG (320 * p) T m).2.2.2 := ⟨_, rfl⟩
    have atom : its ≤ 200 → ((CA m).length : Int) ≤ its := fun hs => by
      rw [eK] at c1 c2 c3 c4 c5
      rw [← hl] at c3 c4 c5
      rw [hits] at hs ⊢
      unfold fits at hs ⊢
      by_cases z18 : T.1 625 (320 * p + m) = 18
      · rw [if_pos z18] at hs ⊢
        rw [c3 z18, flat]
        exact kids hs
      · rw [if_neg z18] at hs ⊢
        by_cases z7 : T.1 625 (320 * p + m) < 7
        · rw [if_pos z7]
          by_cases z0 : T.1 625 (320 * p + m) = 0
          · rw [c1 z0]
            show ((1 : Nat) : Int) ≤ 1
            omega
          · obtain ⟨kr, _⟩ := FINX_K hF hm
            rw [eK] at kr
            rw [c2 (by omega)]
            show ((1 : Nat) : Int) ≤ 1
            omega
        · rw [if_neg z7] at hs ⊢
          have ne : l ≠ [] := fun z => by
            have y := (hB.2.2 m hm).2 (by omega)
            rw [hl, eC, show (320 : Nat) = 319 + 1 from rfl, lstC, if_neg y] at z
            cases z
          have l1 : 1 ≤ l.length := by
            cases l with
            | nil => exact absurd rfl ne
            | cons _ _ => exact Nat.succ_le_succ (Nat.zero_le _)
          have hsb : (fcG (320 * p) T m).2.2.1 ≤ 200 := by
            (repeat' split at hs) <;> omega
          have ks := kids hsb
          have cl := cdR_len (l.map CI)
          rw [List.length_map] at cl
          have cl' : (cdR (l.map CI)).length + 2 ≤ ((l.map CI).map List.length).sum + 2 * l.length := cl.resolve_right (fun z => ne (List.map_eq_nil_iff.mp z))
          rw [gs.2]
          rw [if_neg (by omega)]
          by_cases z8 : T.1 625 (320 * p + m) = 8
          · rw [c4 z8, if_pos z8, List.length_append, List.length_cons]
            show ((((cdR (l.map CI)).length + 1) + 1 : Nat) : Int) ≤ _
            omega
          · rw [c5 (by omega), if_neg z8]
            omega
    refine ⟨fun hs => ?_, fun hs => ?_⟩
    · rw [q2, ← hits] at hs ⊢
      have := mlC_i its
      have := atom (by omega)
      omega
    · rw [q4, ← hits] at hs ⊢
      unfold f643 at hs ⊢
      by_cases r1 : T.1 630 (320 * p + m) = -1
      · rw [if_pos r1] at hs ⊢
        rw [c6 (by rw [eR]; exact r1)]
        have := mlC_i its
        have := atom (by omega)
        omega
      · rw [if_neg r1] at hs ⊢
        have bv := (hF.1.2.2.2.1.1 m hm).2.1 (by
          show tR (sft p T) m ≠ -1
          rw [eR]
          exact r1)
        have bv' : (0 ≤ T.1 631 (320 * p + m) ∧ T.1 631 (320 * p + m) ≤ 20) ∧ (-1 ≤ T.1 632 (320 * p + m) ∧ T.1 632 (320 * p + m) ≤ 20) ∧ (T.1 632 (320 * p + m) = -1 ∨ T.1 631 (320 * p + m) ≤ T.1 632 (320 * p + m)) := by
          rw [← eL, ← eH]
          exact bv
        have rl : ∀ fork, ((repL fork (tL (sft p T) m) (tH (sft p T) m) (CA m)).length : Int) ≤ if T.1 632 (320 * p + m) = -1 then ((CA m).length : Int) * (T.1 631 (320 * p + m) + 1) + 2 else (((CA m).length : Int) + 1) * T.1 632 (320 * p + m) := fun fork => by
          rw [eL, eH]
          exact repL_len bv'.1.1 (by omega)
        have goal : (if T.1 632 (320 * p + m) = -1 then ((CA m).length : Int) * (T.1 631 (320 * p + m) + 1) + 2 else (((CA m).length : Int) + 1) * T.1 632 (320 * p + m)) ≤ (if T.1 632 (320 * p + m) = -1 then mlC (its * (T.1 631 (320 * p + m) + 1) + 2) else mlC ((its + 1) * T.1 632 (320 * p + m))) := by
          rw [← hits] at its0
          by_cases zh : T.1 632 (320 * p + m) = -1
          · rw [if_pos zh] at hs ⊢
            rw [if_pos zh]
            have a2 : its * 1 ≤ its * (T.1 631 (320 * p + m) + 1) := Int.mul_le_mul_of_nonneg_left (by omega) its0
            have i1 := mlC_i (its * (T.1 631 (320 * p + m) + 1) + 2)
            have at' := atom (by omega)
            have a3 := Int.mul_le_mul_of_nonneg_right at' (show 0 ≤ T.1 631 (320 * p + m) + 1 by omega)
            omega
          · rw [if_neg zh] at hs ⊢
            rw [if_neg zh]
            by_cases z0 : T.1 632 (320 * p + m) = 0
            · rw [z0, Int.mul_zero, Int.mul_zero]
              decide
            · have a2 : (its + 1) * 1 ≤ (its + 1) * T.1 632 (320 * p + m) := Int.mul_le_mul_of_nonneg_left (by omega) (by omega)
              have i1 := mlC_i ((its + 1) * T.1 632 (320 * p + m))
              have at' := atom (by omega)
              have a3 := Int.mul_le_mul_of_nonneg_right (show ((CA m).length : Int) + 1 ≤ its + 1 by omega) (show 0 ≤ T.1 632 (320 * p + m) by omega)
              omega
        rcases h.2.2.2.2.2.2.2.2 m hm with ⟨z, _⟩ | ⟨⟨z | z, _⟩, _⟩ | ⟨⟨z, _⟩, _⟩
        · have : tR (sft p T) m = -1 := z
          omega
        · rw [c7 z]
          exact Int.le_trans (rl 3) goal
        · rw [c8 z]
          exact Int.le_trans (rl 4) goal
        · have : tR (sft p T) m = 2 := z
          omega
end PROG7
