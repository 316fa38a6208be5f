/-! PROGRAMS: what leads on to a match -/
section PROG13
variable {Q g n i : Nat} {S U V : ev_St}
abbrev nxL (g n i : Nat) (U : ev_St) : Prop := i + 1 < n ∧ U.1 (g + 5) (i + 1) ≠ 0
abbrev frL (g n i : Nat) (far : Int) (U : ev_St) : Prop := (0 ≤ (i : Int) + far ∧ (i : Int) + far < n) ∧ U.1 (g + 5) ((i : Int) + far).toNat ≠ 0
theorem st80_26 {JJ : Int → ev_St → Option (Int × ev_St)} {x3 : Int} (l5 : ev_aln (g + 5) = 208) (hn : n ≤ 208) (h3 : x3 = if i + 1 < n then 1 else 0) : ev_jn JJ (fun K26 => ev_jn (fun  (s52 : ev_St) => K26 0 s52) fun K25 => if x3 = 0 then (K25  U) else (ev_ck ((i:Int) + 1) fun x54 => ev_if ((0 : Int) ≤ x54 ∧ x54 < (ev_aln ((g + 5)) : Int)) (ev_b (U.1 ((g + 5)) (Int.toNat x54)) fun x55 => if x55 = 0 then (K25  U) else (K26 1 U)))) = JJ (if nxL g n i U then 1 else 0) U := by
  rw [sp_jn, sp_jn]
  by_cases a : i + 1 < n
  · rw [if_pos a] at h3
    rw [if_neg (by omega), sp_ck (by omega), sp_if (by rw [l5]; omega), sp_b, show ((i : Int) + 1).toNat = i + 1 from by omega]
    by_cases c : U.1 (g + 5) (i + 1) = 0
    · rw [if_pos c, if_neg (fun z => z.2 c)]
    · rw [if_neg c, if_pos ⟨a, c⟩]
  · rw [if_neg a] at h3
    rw [if_pos h3, if_neg (fun z => a z.1)]
theorem st80_63 {JJ : Int → Int → ev_St → Option (Int × ev_St)} {x4 x12 far : Int} (l2 : ev_aln (g + 2) = 208) (l5 : ev_aln (g + 5) = 208) (hn : n ≤ 208) (hi : i < n) (hf : U.1 (g + 2) i = far) (hr : 0 ≤ (i : Int) + far ∧ (i : Int) + far ≤ 300) (h12 : x12 = if 0 ≤ (i : Int) + far ∧ (i : Int) + far < n then 1 else 0) : ev_jn JJ (fun K63 => ev_jn (fun (x38 : Int) (s43 : ev_St) => K63 x38 0 s43) fun K62 => if x12 = 0 then (K62 x4 U) else (ev_if ((0 : Int) ≤ (i:Int) ∧ (i:Int) < (ev_aln ((g + 2)) : Int)) (ev_b (U.1 ((g + 2)) (Int.toNat (i:Int))) fun x45 => ev_ck ((i:Int) + x45) fun x46 => ev_if ((0 : Int) ≤ x46 ∧ x46 < (ev_aln ((g + 5)) : Int)) (ev_b (U.1 ((g + 5)) (Int.toNat x46)) fun x47 => if x47 = 0 then (K62 x4 U) else (K63 x4 1 U))))) = JJ x4 (if frL g n i far U then 1 else 0) U := by
  rw [sp_jn, sp_jn]
  by_cases a : 0 ≤ (i : Int) + far ∧ (i : Int) + far < n
  · rw [if_pos a] at h12
    rw [if_neg (by omega), sp_if (by rw [l2]; omega), sp_b, Int.toNat_natCast, hf, sp_ck (by omega), sp_if (by rw [l5]; omega), sp_b]
    by_cases c : U.1 (g + 5) ((i : Int) + far).toNat = 0
    · rw [if_pos c, if_neg (fun z => z.2 c)]
    · rw [if_neg c, if_pos ⟨a, c⟩]
  · rw [if_neg a] at h12
    rw [if_pos h12, if_neg (fun z => a z.1)]
/-- an instruction leads on -/
def ldL (g n i : Nat) (x : INS) (U : ev_St) : Prop := if x.1 = 0 then nxL g n i U ∧ (U.2.1 (g + 3) i ≠ 0 ∨ U.2.1 (g + 4) i ≠ 0) else if x.1 = 2 then frL g n i x.2.1 U else if x.1 = 3 ∨ x.1 = 4 then nxL g n i U ∨ frL g n i x.2.1 U else if x.1 = 6 then True else nxL g n i U
theorem sp_80 {L : List INS} {x : INS} (hg : al5 g) (hp : PL g U L) (hx : L[i]? = some x) (ht : tgI i L.length x) : ∃ v, jm_80 Q g (i : Int) U = some (v, U) ∧ ((v = 1 ∧ ldL g L.length i x U) ∨ (v = 0 ∧ ¬ ldL g L.length i x U)) := by
  obtain ⟨l1, l2, l3, l4, l5⟩ := hg
  have hi : i < L.length := by
    by_cases y : i < L.length
    · exact y
    · rw [List.getElem?_eq_none (by omega)] at hx
      cases hx
  obtain ⟨p1, p2, p3⟩ := hp
  obtain ⟨e1, e2, _⟩ := p3 i x hx
  have rg : 0 ≤ (i : Int) + x.2.1 ∧ (i : Int) + x.2.1 ≤ 300 := by
    rcases ht with ⟨_, a, b⟩ | ⟨_, a, b⟩ <;> omega
  have run : jm_80 Q g (i : Int) U = (if x.1 = 0 then (if (if nxL g L.length i U then (1 : Int) else 0) = 0 then some (0, U) else ev_b (ev_lcmp (U.2.1 (g + 3) i) (Int64.ofNat ((0 : Fin 2) : Nat))) fun x24 => if x24 ≠ 0 then (some (1, U)) else (ev_b (ev_lcmp (U.2.1 (g + 4) i) (Int64.ofNat ((0 : Fin 2) : Nat))) fun x27 => if x27 = 0 then (some (0, U)) else (some (1, U)))) else if x.1 = 1 ∨ x.1 = 5 then some ((if nxL g L.length i U then (1 : Int) else 0), U) else if x.1 = 2 then some ((if frL g L.length i x.2.1 U then (1 : Int) else 0), U) else if x.1 = 3 ∨ x.1 = 4 then (if (if nxL g L.length i U then (1 : Int) else 0) ≠ 0 then (some (1, U)) else (if (if frL g L.length i x.2.1 U then (1 : Int) else 0) = 0 then (some (0, U)) else (some (1, U)))) else if x.1 = 6 then some (1, U) else some ((if nxL g L.length i U then (1 : Int) else 0), U)) := by
    have b1 : ev_bl (if nxL g L.length i U then (1 : Int) else 0) := by
      split
      · exact Or.inr rfl
      · exact Or.inl rfl
    have b2 : ev_bl (if frL g L.length i x.2.1 U then (1 : Int) else 0) := by
      split
      · exact Or.inr rfl
      · exact Or.inl rfl
    unfold jm_80
    rw [sp_ck (by omega), sp_70 p1, sp_bd, st80_26 (n := L.length) l5 p2 (by
      by_cases y : i + 1 < L.length
      · rw [if_pos y, if_pos (by omega)]
      · rw [if_neg y, if_neg (by omega)])]
    try dsimp only
    have q : U.1 (g + 2) (Int.toNat (i : Int)) = x.2.1 := by
      rw [Int.toNat_natCast]
      exact e2
    rw [sp_if (by rw [l2]; omega), sp_b, sp_ck (by rw [q]; omega), sp_70 p1, sp_bd, st80_63 (n := L.length) (far := x.2.1) l2 l5 p2 hi e2 rg (by
      rw [q]
      by_cases y : 0 ≤ (i : Int) + x.2.1 ∧ (i : Int) + x.2.1 < (L.length : Int)
      · rw [if_pos y, if_pos (by omega)]
      · rw [if_neg y, if_neg (by omega)])]
    try dsimp only
    rw [sp_if (by rw [l1]; omega), sp_b, Int.toNat_natCast, e1, sp_if (by rw [l3]; omega), sp_b, sp_if (by rw [l4]; omega), sp_b, sp_if b1, sp_if b2]
    simp only [sp_b]
  have dec : Decidable (ldL g L.length i x U) := Classical.propDecidable _
  refine ⟨if ldL g L.length i x U then 1 else 0, ?_, ?_⟩
  · rw [run]
    unfold ldL
    by_cases x0 : x.1 = 0
    · rw [if_pos x0]
      simp only [if_pos x0]
      by_cases a : nxL g L.length i U
      · rw [if_pos a, if_neg (by decide), sp_b]
        by_cases c : U.2.1 (g + 3) i = 0
        · rw [if_neg (fun z => z ((lcmp_0 _).mpr c)), sp_b]
          by_cases d : U.2.1 (g + 4) i = 0
          · rw [if_pos ((lcmp_0 _).mpr d), if_neg (fun z => by rcases z.2 with w | w; exact w c; exact w d)]
          · rw [if_neg (fun z => d ((lcmp_0 _).mp z)), if_pos ⟨a, Or.inr d⟩]
        · rw [if_pos (fun z => c ((lcmp_0 _).mp z)), if_pos ⟨a, Or.inl c⟩]
      · rw [if_neg a, if_pos rfl, if_neg (fun z => a z.1)]
    · rw [if_neg x0]
      simp only [if_neg x0]
      by_cases x15 : x.1 = 1 ∨ x.1 = 5
      · rw [if_pos x15]
        have n2 : ¬ x.1 = 2 := by omega
        have n34 : ¬ (x.1 = 3 ∨ x.1 = 4) := by omega
        have n6 : ¬ x.1 = 6 := by omega
        simp only [if_neg n2, if_neg n34, if_neg n6]
      · rw [if_neg x15]
        by_cases x2 : x.1 = 2
        · rw [if_pos x2]
          simp only [if_pos x2]
        · rw [if_neg x2]
          simp only [if_neg x2]
          by_cases x34 : x.1 = 3 ∨ x.1 = 4
          · rw [if_pos x34]
            simp only [if_pos x34]
            by_cases a : nxL g L.length i U
            · rw [if_pos a, if_pos (by decide), if_pos (Or.inl a)]
            · rw [if_neg a, if_neg (fun z => z rfl)]
              by_cases c : frL g L.length i x.2.1 U
              · rw [if_pos c, if_neg (by decide), if_pos (Or.inr c)]
              · rw [if_neg c, if_pos rfl, if_neg (fun z => by rcases z with w | w; exact a w; exact c w)]
          · rw [if_neg x34]
            simp only [if_neg x34]
            by_cases x6 : x.1 = 6
            · rw [if_pos x6]
              simp only [if_pos x6, if_true]
            · rw [if_neg x6]
              simp only [if_neg x6]
  · by_cases z : ldL g L.length i x U
    · exact Or.inl ⟨if_pos z, z⟩
    · exact Or.inr ⟨if_neg z, z⟩
end PROG13
