/-! PROGRAMS: the class's list of instructions -/
section PROG
variable {Q g : Nat} {S U V W : ev_St}
/-- an instruction: what, how far, a set's halves -/
abbrev INS := Int × Int × Int64 × Int64
def PL (g : Nat) (U : ev_St) (L : List INS) : Prop := U.1 g 5 = (L.length : Int) ∧ L.length ≤ 208 ∧ ∀ (i : Nat) (x : INS), L[i]? = some x → U.1 (g + 1) i = x.1 ∧ U.1 (g + 2) i = x.2.1 ∧ (x.1 = 0 → U.2.1 (g + 3) i = x.2.2.1 ∧ U.2.1 (g + 4) i = x.2.2.2)
/-- nothing but the program is changed -/
def FRp (g : Nat) (S U : ev_St) : Prop := (∀ x i, ¬ ((x = g ∧ i = 5) ∨ x = g + 1 ∨ x = g + 2) → U.1 x i = S.1 x i) ∧ (∀ x i, x ≠ g + 3 → x ≠ g + 4 → U.2.1 x i = S.2.1 x i) ∧ U.2.2 = S.2.2
theorem FRp_r : FRp g S S := ⟨fun _ _ _ => rfl, fun _ _ _ _ => rfl, rfl⟩
theorem FRp_t (h : FRp g S U) (h2 : FRp g U V) : FRp g S V := ⟨fun x i z => (h2.1 x i z).trans (h.1 x i z), fun x i a b => (h2.2.1 x i a b).trans (h.2.1 x i a b), h2.2.2.trans h.2.2⟩
def al5 (g : Nat) : Prop := ev_aln (g + 1) = 208 ∧ ev_aln (g + 2) = 208 ∧ ev_aln (g + 3) = 208 ∧ ev_aln (g + 4) = 208 ∧ ev_aln (g + 5) = 208
theorem PL_add {L : List INS} {a b : Int} {c d : Int64} (hg : al5 g) (h : PL g U L) (hl : L.length < 208) : ∃ V, jm_76 Q g a b c d U = some ((), V) ∧ PL g V (L ++ [(a, b, c, d)]) ∧ FRp g U V := by
  obtain ⟨l1, l2, l3, l4, l5⟩ := hg
  obtain ⟨h1, h2, h3⟩ := h
  obtain ⟨V, hV⟩ : ∃ V, V = ev_pI (ev_pL (ev_pL (ev_pI (ev_pI U (g + 1) L.length a) (g + 2) L.length b) (g + 3) L.length c) (g + 4) L.length d) g 5 ((L.length : Int) + 1) := ⟨_, rfl⟩
  have v1 : ∀ x i, V.1 x i = if x = g ∧ i = 5 then (L.length : Int) + 1 else if x = g + 2 ∧ i = L.length then b else if x = g + 1 ∧ i = L.length then a else U.1 x i := fun x i => by rw [hV]; rfl
  have v2 : ∀ x i, V.2.1 x i = if x = g + 4 ∧ i = L.length then d else if x = g + 3 ∧ i = L.length then c else U.2.1 x i := fun x i => by rw [hV]; rfl
  refine ⟨V, ?_, ⟨?_, ?_, fun i x hx => ?_⟩, fun x i z => ?_, fun x i z1 z2 => ?_, by rw [hV]; rfl⟩
  · unfold jm_76
    rw [sp_b, h1, if_neg (by omega), sp_b, if_neg (by omega), sp_b, sp_if (by rw [l1]; omega), sp_b, sp_b, Int.toNat_natCast, rd_nk (by omega), h1, sp_if (by rw [l2]; omega), sp_b, sp_b, Int.toNat_natCast, rd_nk (by omega), rd_nk (by omega), h1, sp_if (by rw [l3]; omega), sp_b, sp_b, Int.toNat_natCast, sp_pL1, rd_nk (by omega), rd_nk (by omega), h1, sp_if (by rw [l4]; omega), sp_b, sp_b, Int.toNat_natCast, sp_pL1, sp_pL1, rd_nk (by omega), rd_nk (by omega), h1, sp_ck (by omega), sp_b, hV]
  · rw [v1, if_pos ⟨rfl, rfl⟩, List.length_append]
    rfl
  · rw [List.length_append]
    show L.length + 1 ≤ 208
    omega
  · by_cases e : i < L.length
    · rw [List.getElem?_append_left e] at hx
      have q := h3 i x hx
      rw [v1, v1, v2, v2, if_neg (by omega), if_neg (by omega), if_neg (by omega), if_neg (by omega), if_neg (by omega), if_neg (by omega), if_neg (by omega), if_neg (by omega), if_neg (by omega), if_neg (by omega)]
      exact q
    · rw [List.getElem?_append_right (by omega)] at hx
      have ei : i = L.length := by
        by_cases y : i - L.length = 0
        · omega
        · rw [List.getElem?_eq_none (by show 1 ≤ _; omega)] at hx
          exact absurd hx (by intro z; cases z)
      rw [ei, Nat.sub_self] at hx
      have hx' : (a, b, c, d) = x := Option.some.inj hx
      rw [← hx', v1, v1, v2, v2, ei, if_neg (by omega), if_neg (by omega), if_pos ⟨rfl, rfl⟩, if_neg (by omega), if_pos ⟨rfl, rfl⟩, if_neg (by omega), if_pos ⟨rfl, rfl⟩, if_pos ⟨rfl, rfl⟩]
      exact ⟨rfl, rfl, fun _ => ⟨rfl, rfl⟩⟩
  · rw [v1, if_neg (by omega), if_neg (by omega), if_neg (by omega)]
  · rw [v2, if_neg (by omega), if_neg (by omega)]
theorem PL_ins {A B : List INS} {a b : Int} {c d : Int64} (hg : al5 g) (ha : a ≠ 0) (h : PL g U (A ++ B)) (hl : A.length + B.length < 208) : ∃ V, jm_78 Q g (A.length : Int) a b U = some ((), V) ∧ PL g V (A ++ (a, b, c, d) :: B) ∧ FRp g U V := by
  obtain ⟨l1, l2, l3, l4, l5⟩ := hg
  obtain ⟨h1, h2, h3⟩ := h
  rw [List.length_append] at h1 h2
  obtain ⟨n, hn⟩ : ∃ n, n = A.length := ⟨_, rfl⟩
  obtain ⟨m, hm⟩ : ∃ m, m = B.length := ⟨_, rfl⟩
  rw [← hn, ← hm] at h1 h2 hl
  rw [← hn]
  obtain ⟨V, hV⟩ : ∃ V, V = ev_pI (ev_pI (ev_pI (ev_cpL (ev_cpL (ev_cpI (ev_cpI U (g + 1) (g + 1) n (n + 1) m) (g + 2) (g + 2) n (n + 1) m) (g + 3) (g + 3) n (n + 1) m) (g + 4) (g + 4) n (n + 1) m) (g + 1) n a) (g + 2) n b) g 5 (((n + m : Nat) : Int) + 1) := ⟨_, rfl⟩
  have v1 : ∀ x i, V.1 x i = if x = g ∧ i = 5 then ((n + m : Nat) : Int) + 1 else if x = g + 2 ∧ i = n then b else if x = g + 1 ∧ i = n then a else if (x = g + 1 ∨ x = g + 2) ∧ n + 1 ≤ i ∧ i < n + 1 + m then U.1 x (n + (i - (n + 1))) else U.1 x i := fun x i => by
    have e : V.1 x i = (if x = g ∧ i = 5 then ((n + m : Nat) : Int) + 1 else if x = g + 2 ∧ i = n then b else if x = g + 1 ∧ i = n then a else if x = g + 2 ∧ n + 1 ≤ i ∧ i < n + 1 + m then (if g + 2 = g + 1 ∧ n + 1 ≤ n + (i - (n + 1)) ∧ n + (i - (n + 1)) < n + 1 + m then U.1 (g + 1) (n + (n + (i - (n + 1)) - (n + 1))) else U.1 (g + 2) (n + (i - (n + 1)))) else if x = g + 1 ∧ n + 1 ≤ i ∧ i < n + 1 + m then U.1 (g + 1) (n + (i - (n + 1))) else U.1 x i) := by rw [hV]; rfl
    rw [e]
    by_cases c1 : x = g ∧ i = 5
    · rw [if_pos c1, if_pos c1]
    · rw [if_neg c1, if_neg c1]
      by_cases c2 : x = g + 2 ∧ i = n
      · rw [if_pos c2, if_pos c2]
      · rw [if_neg c2, if_neg c2]
        by_cases c3 : x = g + 1 ∧ i = n
        · rw [if_pos c3, if_pos c3]
        · rw [if_neg c3, if_neg c3]
          by_cases c4 : x = g + 2 ∧ n + 1 ≤ i ∧ i < n + 1 + m
          · rw [if_pos c4, if_neg (by omega), if_pos ⟨Or.inr c4.1, c4.2⟩, c4.1]
          · rw [if_neg c4]
            by_cases c5 : x = g + 1 ∧ n + 1 ≤ i ∧ i < n + 1 + m
            · rw [if_pos c5, if_pos ⟨Or.inl c5.1, c5.2⟩, c5.1]
            · rw [if_neg c5, if_neg (by omega)]
  have v2 : ∀ x i, V.2.1 x i = if (x = g + 3 ∨ x = g + 4) ∧ n + 1 ≤ i ∧ i < n + 1 + m then U.2.1 x (n + (i - (n + 1))) else U.2.1 x i := fun x i => by
    have e : V.2.1 x i = (if x = g + 4 ∧ n + 1 ≤ i ∧ i < n + 1 + m then (if g + 4 = g + 3 ∧ n + 1 ≤ n + (i - (n + 1)) ∧ n + (i - (n + 1)) < n + 1 + m then U.2.1 (g + 3) (n + (n + (i - (n + 1)) - (n + 1))) else U.2.1 (g + 4) (n + (i - (n + 1)))) else if x = g + 3 ∧ n + 1 ≤ i ∧ i < n + 1 + m then U.2.1 (g + 3) (n + (i - (n + 1))) else U.2.1 x i) := by rw [hV]; rfl
    rw [e]
    by_cases c4 : x = g + 4 ∧ n + 1 ≤ i ∧ i < n + 1 + m
    · rw [if_pos c4, if_neg (by omega), if_pos ⟨Or.inr c4.1, c4.2⟩, c4.1]
    · rw [if_neg c4]
      by_cases c5 : x = g + 3 ∧ n + 1 ≤ i ∧ i < n + 1 + m
      · rw [if_pos c5, if_pos ⟨Or.inl c5.1, c5.2⟩, c5.1]
      · rw [if_neg c5, if_neg (by omega)]
  refine ⟨V, ?_, ⟨?_, ?_, fun i x hx => ?_⟩, fun x i z => ?_, fun x i z1 z2 => ?_, by rw [hV]; rfl⟩
  · have e1 : ((n + m : Nat) : Int) - (n : Int) = (m : Int) := by omega
    have e2 : ((n : Int) + 1).toNat = n + 1 := by omega
    have r1 : (ev_pI (ev_pI (ev_cpL (ev_cpL (ev_cpI (ev_cpI U (g + 1) (g + 1) n (n + 1) m) (g + 2) (g + 2) n (n + 1) m) (g + 3) (g + 3) n (n + 1) m) (g + 4) (g + 4) n (n + 1) m) (g + 1) n a) (g + 2) n b).1 g 5 = ((n + m : Nat) : Int) := by
      rw [rd_nk (by omega), rd_nk (by omega)]
      show (ev_cpI (ev_cpI U (g + 1) (g + 1) n (n + 1) m) (g + 2) (g + 2) n (n + 1) m).1 g 5 = _
      rw [sp_cp1, if_neg (by omega), sp_cp1, if_neg (by omega), h1]
    unfold jm_78
    rw [sp_b, h1, sp_ck (by omega), e1, if_neg (by omega), if_neg (by omega), sp_b, if_pos (by omega), sp_ck (by omega), e2, Int.toNat_natCast, Int.toNat_natCast, sp_if (by rw [l1]; omega), sp_b, sp_ck (by omega), e2, sp_if (by rw [l2]; omega), sp_b, sp_ck (by omega), e2, sp_if (by rw [l3]; omega), sp_b, sp_ck (by omega), e2, sp_if (by rw [l4]; omega), sp_b, sp_if (by rw [l1]; omega), sp_b, sp_if (by rw [l2]; omega), sp_b, sp_b, r1, sp_ck (by omega), sp_b, hV]
  · rw [v1, if_pos ⟨rfl, rfl⟩, List.length_append, List.length_cons, ← hn, ← hm]
    omega
  · rw [List.length_append, List.length_cons, ← hn, ← hm]
    omega
  · by_cases e : i < n
    · rw [List.getElem?_append_left (by omega)] at hx
      have q := h3 i x (by rw [List.getElem?_append_left (by omega)]; exact hx)
      rw [v1, v1, v2, v2, if_neg (by omega), if_neg (by omega), if_neg (by omega), if_neg (by omega), if_neg (by omega), if_neg (by omega), if_neg (by omega), if_neg (by omega), if_neg (by omega), if_neg (by omega)]
      exact q
    · rw [List.getElem?_append_right (by omega), ← hn] at hx
      by_cases e2 : i = n
      · rw [e2, Nat.sub_self] at hx
        have hx' : (a, b, c, d) = x := Option.some.inj hx
        rw [← hx', v1, v1, e2, if_neg (by omega), if_neg (by omega), if_pos ⟨rfl, rfl⟩, if_neg (by omega), if_pos ⟨rfl, rfl⟩]
        exact ⟨rfl, rfl, fun z => absurd z ha⟩
      · obtain ⟨j, hj⟩ : ∃ j, i = n + 1 + j := ⟨i - (n + 1), by omega⟩
        rw [hj, show n + 1 + j - n = j + 1 from by omega, List.getElem?_cons_succ] at hx
        have hjm : j < m := by
          by_cases y : j < m
          · exact y
          · rw [List.getElem?_eq_none (by omega)] at hx
            cases hx
        have q := h3 (n + j) x (by rw [List.getElem?_append_right (by omega), ← hn, show n + j - n = j from by omega]; exact hx)
        rw [v1, v1, v2, v2, hj, if_neg (by omega), if_neg (by omega), if_neg (by omega), if_pos ⟨Or.inl rfl, by omega, by omega⟩, if_neg (by omega), if_neg (by omega), if_neg (by omega), if_pos ⟨Or.inr rfl, by omega, by omega⟩, if_pos ⟨Or.inl rfl, by omega, by omega⟩, if_pos ⟨Or.inr rfl, by omega, by omega⟩, show n + (n + 1 + j - (n + 1)) = n + j from by omega]
        exact q
  · rw [v1, if_neg (by omega), if_neg (by omega), if_neg (by omega), if_neg (by omega)]
  · rw [v2, if_neg (by omega)]
theorem sp_70 {a n : Int} (h : U.1 g 5 = n) : jm_70 Q g a U = some (if 0 ≤ a ∧ a < n ∧ a < 208 then 1 else 0, U) := by
  unfold jm_70
  by_cases c1 : a < 0
  · rw [if_pos c1, if_neg (by omega)]
  · rw [if_neg c1, sp_b, h]
    by_cases c2 : n ≤ a
    · rw [if_pos c2, if_neg (by omega)]
    · by_cases c3 : 208 ≤ a
      · rw [if_neg c2, if_pos c3, if_neg (by omega)]
      · rw [if_neg c2, if_neg c3, if_pos (by omega)]
/-- the longs of what is no set are nobody's -/
theorem PL_same {L : List INS} {y x : INS} (h : PL g U (L ++ [y])) (h1 : y.1 = x.1) (h2 : y.2.1 = x.2.1) (h3 : x.1 = 0 → y.2.2 = x.2.2) : PL g U (L ++ [x]) := by
  obtain ⟨a, b, c⟩ := h
  rw [List.length_append] at a b
  refine ⟨by rw [List.length_append]; exact a, by rw [List.length_append]; exact b, fun i z hz => ?_⟩
  by_cases e : i < L.length
  · rw [List.getElem?_append_left e] at hz
    exact c i z (by rw [List.getElem?_append_left e]; exact hz)
  · rw [List.getElem?_append_right (by omega)] at hz
    have ei : i = L.length := by
      by_cases y' : i - L.length = 0
      · omega
      · rw [List.getElem?_eq_none (by show 1 ≤ _; omega)] at hz
        cases hz
    rw [ei, Nat.sub_self] at hz
    have hz' : x = z := Option.some.inj hz
    have q := c L.length y (by rw [List.getElem?_append_right (Nat.le_refl _), Nat.sub_self]; rfl)
    rw [ei, ← hz', ← h1, ← h2]
    refine ⟨q.1, q.2.1, fun z0 => ?_⟩
    have z1 := h3 (by rw [← h1]; exact z0)
    rw [← z1]
    exact q.2.2 z0
/-- a stretch of the program once more -/
theorem PL_copy {A X B : List INS} (hg : al5 g) (hl : A.length + X.length + B.length + X.length ≤ 208) : ∀ (r q i : Nat) (U : ev_St), r < q → i + r = X.length → PL g U (A ++ X ++ B ++ X.take i) → ∃ V, jl_77_2 Q g (A.length : Int) (X.length : Int) q (i : Int) U = some ((), V) ∧ FRp g U V ∧ PL g V (A ++ X ++ B ++ X)
  | r, 0, i, U, h, _, _ => by omega
  | 0, q + 1, i, U, _, hi, y2 => by
    refine ⟨U, ?_, FRp_r, ?_⟩
    · show jb_77_2 Q g _ _ _ _ U = _
      unfold jb_77_2
      rw [if_pos (by omega)]
    · rw [List.take_of_length_le (by omega)] at y2
      exact y2
  | r + 1, q + 1, i, U, hq, hi, y2 => by
    obtain ⟨l1, l2, l3, l4, l5⟩ := hg
    have hiX : i < X.length := by omega
    obtain ⟨x, hx⟩ : ∃ x, X[i]? = some x := ⟨X[i], List.getElem?_eq_getElem hiX⟩
    have hLx : (A ++ X ++ B ++ X.take i)[A.length + i]? = some x := by
      rw [List.append_assoc, List.append_assoc, List.getElem?_append_right (by omega), show A.length + i - A.length = i from by omega, List.getElem?_append_left hiX]
      exact hx
    have tl : (X.take i).length = i := by
      rw [List.length_take]
      omega
    have p1 := y2.1
    rw [List.length_append, List.length_append, List.length_append, tl] at p1
    obtain ⟨e1, e2, e3⟩ := y2.2.2 (A.length + i) x hLx
    obtain ⟨V1, v1, v2, v3⟩ := PL_add (Q := Q) (a := x.1) (b := x.2.1) (c := U.2.1 (g + 3) (A.length + i)) (d := U.2.1 (g + 4) (A.length + i)) ⟨l1, l2, l3, l4, l5⟩ y2 (by rw [List.length_append, List.length_append, List.length_append, tl]; omega)
    have v2' := PL_same (x := x) v2 rfl rfl (fun z0 => Prod.ext (e3 z0).1 (e3 z0).2)
    have ext : A ++ X ++ B ++ X.take i ++ [x] = A ++ X ++ B ++ X.take (i + 1) := by
      rw [List.append_assoc (A ++ X ++ B), List.take_succ, hx]
      rfl
    rw [ext] at v2'
    obtain ⟨V, w1, w2, w3⟩ := PL_copy ⟨l1, l2, l3, l4, l5⟩ hl r q (i + 1) V1 (by omega) (by omega) v2'
    refine ⟨V, ?_, FRp_t v3 w2, w3⟩
    rw [← w1]
    show jb_77_2 Q g _ _ _ _ U = _
    unfold jb_77_2
    have ea : ((A.length : Int) + (i : Int)).toNat = A.length + i := by omega
    rw [if_neg (by omega), sp_ck (by omega), sp_70 p1, sp_bd, sp_jn, if_neg (show ¬ ((if 0 ≤ (A.length : Int) + (i : Int) ∧ (A.length : Int) + (i : Int) < ((A.length + X.length + B.length + i : Nat) : Int) ∧ (A.length : Int) + (i : Int) < 208 then (1 : Int) else 0) = 0) by rw [if_pos (by omega)]; decide), sp_if (by rw [l1]; omega), sp_b, sp_if (by rw [l2]; omega), sp_b, sp_if (by rw [l3]; omega), sp_b, sp_if (by rw [l4]; omega), sp_b, ea, e1, e2, v1, sp_bd]
    try dsimp only
    rw [sp_ck (by omega), show (i : Int) + 1 = ((i + 1 : Nat) : Int) from by omega]
end PROG
