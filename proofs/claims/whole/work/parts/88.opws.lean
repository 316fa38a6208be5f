/-! PROGRAMS: the class writes a repeat -/
section PROG2
variable {Q g : Nat} {S U V W : ev_St}
abbrev ins (a b : Int) : INS := (a, b, Int64.ofNat ((0 : Fin 2) : Nat), Int64.ofNat ((0 : Fin 2) : Nat))
/-- the rounds of a repeat from i on -/
def moreL (fork lo hi : Int) (copies : Nat) (X : List INS) : Nat → Nat → List INS
  | 0, _ => []
  | r + 1, i => (if (i : Int) < lo then [] else [ins fork (if hi = -1 then (X.length : Int) + 2 else ((copies : Int) - (i : Int)) * ((X.length : Int) + 1))]) ++ X ++ moreL fork lo hi copies X r (i + 1)
def tailL (hi : Int) (X : List INS) : List INS := if hi = -1 then [ins 2 (-((X.length : Int) + 1))] else []
theorem moreL_len {fork lo hi : Int} {copies : Nat} {X : List INS} : ∀ r i, (moreL fork lo hi copies X r i).length ≤ r * (X.length + 1)
  | 0, i => Nat.zero_le _
  | r + 1, i => by
    have := moreL_len (fork := fork) (lo := lo) (hi := hi) (copies := copies) (X := X) r (i + 1)
    unfold moreL
    rw [List.length_append, List.length_append, Nat.succ_mul]
    split
    · show 0 + X.length + _ ≤ _
      omega
    · show 1 + X.length + _ ≤ _
      omega
theorem PL_75l {A X : List INS} {fork lo hi : Int} {copies : Nat} (hQ : 400 ≤ Q) (hg : al5 g) (hlo : 0 ≤ lo ∧ lo ≤ 20) (hhi : -1 ≤ hi ∧ hi ≤ 20) (hc : copies ≤ 21) : ∀ (r q i : Nat) (B : List INS) (U : ev_St), r < q → i + r = copies → PL g U (A ++ X ++ B) → A.length + X.length + B.length + (moreL fork lo hi copies X r i).length + (tailL hi X).length ≤ 208 → ∃ V, jl_75_74 Q g lo hi fork (X.length : Int) (copies : Int) (A.length : Int) q (i : Int) U = some ((), V) ∧ FRp g U V ∧ PL g V (A ++ X ++ (B ++ moreL fork lo hi copies X r i ++ tailL hi X))
  | r, 0, i, B, U, h, _, _, _ => by omega
  | 0, q + 1, i, B, U, _, hi', hp, hl => by
    have hl0 := hp.2.1
    by_cases z : hi = -1
    · have et : tailL hi X = [ins 2 (-((X.length : Int) + 1))] := if_pos z
      rw [et] at hl ⊢
      rw [List.length_append, List.length_append] at hl0
      have hl' : A.length + X.length + B.length + 0 + 1 ≤ 208 := hl
      obtain ⟨V, v1, v2, v3⟩ := PL_add (Q := Q) (a := 2) (b := -((X.length : Int) + 1)) (c := Int64.ofNat ((0 : Fin 2) : Nat)) (d := Int64.ofNat ((0 : Fin 2) : Nat)) hg hp (by rw [List.length_append, List.length_append]; omega)
      refine ⟨V, ?_, v3, ?_⟩
      · show jb_75_74 Q g _ _ _ _ _ _ _ _ U = _
        unfold jb_75_74
        rw [if_pos (by omega), if_neg (fun y => y z), sp_ck (by omega), sp_ck (by omega), v1, sp_bd]
      · show PL g V (A ++ X ++ (B ++ [] ++ [ins 2 (-((X.length : Int) + 1))]))
        rw [List.append_nil, ← List.append_assoc]
        exact v2
    · have et : tailL hi X = [] := if_neg z
      rw [et]
      refine ⟨U, ?_, FRp_r, ?_⟩
      · show jb_75_74 Q g _ _ _ _ _ _ _ _ U = _
        unfold jb_75_74
        rw [if_pos (by omega), if_pos z]
      · show PL g U (A ++ X ++ (B ++ [] ++ []))
        rw [List.append_nil, List.append_nil]
        exact hp
  | r + 1, q + 1, i, B, U, hq, hi', hp, hl => by
    have hl0 := hp.2.1
    rw [List.length_append, List.length_append] at hl0
    obtain ⟨far, hfar⟩ : ∃ far, far = (if hi = -1 then (X.length : Int) + 2 else ((copies : Int) - (i : Int)) * ((X.length : Int) + 1)) := ⟨_, rfl⟩
    -- the fork, if there is one
    obtain ⟨F, hF⟩ : ∃ F, F = (if (i : Int) < lo then [] else [ins fork far] : List INS) := ⟨_, rfl⟩
    have eM : moreL fork lo hi copies X (r + 1) i = F ++ X ++ moreL fork lo hi copies X r (i + 1) := by
      rw [hF, hfar]
      rfl
    rw [eM] at hl ⊢
    rw [List.length_append, List.length_append] at hl
    have b1 : 0 ≤ ((copies : Int) - (i : Int)) * ((X.length : Int) + 1) ∧ ((copies : Int) - (i : Int)) * ((X.length : Int) + 1) ≤ 21 * 209 := ⟨Int.mul_nonneg (by omega) (by omega), Int.mul_le_mul (by omega) (by omega) (by omega) (by omega)⟩
    have copy : ∀ (B2 : List INS) (U2 : ev_St), PL g U2 (A ++ X ++ B2) → A.length + X.length + B2.length + X.length ≤ 208 → ∃ V, jm_77 Q g (A.length : Int) (X.length : Int) U2 = some ((), V) ∧ FRp g U2 V ∧ PL g V (A ++ X ++ (B2 ++ X)) := fun B2 U2 h1 h2 => by
      obtain ⟨V, w1, w2, w3⟩ := PL_copy (Q := Q) (A := A) (X := X) (B := B2) hg h2 X.length Q 0 U2 (by omega) (by omega) (by rw [List.take_zero, List.append_nil]; exact h1)
      exact ⟨V, w1, w2, by rw [← List.append_assoc]; exact w3⟩
    have fin : ∀ (U2 : ev_St), FRp g U U2 → PL g U2 (A ++ X ++ (B ++ F)) → ∃ V, (ev_bd (jm_77 Q g (A.length : Int) (X.length : Int) U2) fun _ s50 => ev_ck ((i : Int) + 1) fun x51 => jl_75_74 Q g lo hi fork (X.length : Int) (copies : Int) (A.length : Int) q x51 s50) = some ((), V) ∧ FRp g U V ∧ PL g V (A ++ X ++ (B ++ (F ++ X ++ moreL fork lo hi copies X r (i + 1)) ++ tailL hi X)) := fun U2 f2 h2 => by
      obtain ⟨V1, w1, w2, w3⟩ := copy (B ++ F) U2 h2 (by rw [List.length_append]; omega)
      obtain ⟨V, x1, x2, x3⟩ := PL_75l (fork := fork) hQ hg hlo hhi hc r q (i + 1) (B ++ F ++ X) V1 (by omega) (by omega) w3 (by rw [List.length_append, List.length_append]; omega)
      refine ⟨V, ?_, FRp_t f2 (FRp_t w2 x2), ?_⟩
      · rw [w1, sp_bd, sp_ck (by omega), show (i : Int) + 1 = ((i + 1 : Nat) : Int) from by omega]
        exact x1
      · have e : B ++ (F ++ X ++ moreL fork lo hi copies X r (i + 1)) ++ tailL hi X = B ++ F ++ X ++ moreL fork lo hi copies X r (i + 1) ++ tailL hi X := by simp only [List.append_assoc]
        rw [e]
        exact x3
    by_cases z : (i : Int) < lo
    · have eF : F = [] := by rw [hF, if_pos z]
      obtain ⟨V, y1, y2, y3⟩ := fin U FRp_r (by rw [eF, List.append_nil]; exact hp)
      refine ⟨V, ?_, y2, y3⟩
      rw [← y1]
      show jb_75_74 Q g _ _ _ _ _ _ _ _ U = _
      unfold jb_75_74
      rw [if_neg (by omega), sp_jn, if_pos z]
    · have eF : F = [ins fork far] := by rw [hF, if_neg z]
      have lF : F.length = 1 := by rw [eF]; rfl
      obtain ⟨V1, v1, v2, v3⟩ := PL_add (Q := Q) (a := fork) (b := far) (c := Int64.ofNat ((0 : Fin 2) : Nat)) (d := Int64.ofNat ((0 : Fin 2) : Nat)) hg hp (by rw [List.length_append, List.length_append]; omega)
      obtain ⟨V, y1, y2, y3⟩ := fin V1 v3 (by rw [eF, ← List.append_assoc]; exact v2)
      refine ⟨V, ?_, y2, y3⟩
      rw [← y1]
      show jb_75_74 Q g _ _ _ _ _ _ _ _ U = _
      unfold jb_75_74
      rw [if_neg (by omega), sp_jn, if_neg z, sp_jn]
      by_cases zh : hi = -1
      · rw [if_neg (fun y => y zh), sp_ck (by omega)]
        try dsimp only
        rw [show (X.length : Int) + 2 = far from by rw [hfar, if_pos zh], v1, sp_bd]
      · rw [if_pos zh, sp_ck (by omega), sp_ck (by omega), sp_ck (by omega)]
        try dsimp only
        rw [show ((copies : Int) - (i : Int)) * ((X.length : Int) + 1) = far from by rw [hfar, if_neg zh], v1, sp_bd]
/-- how often a repeat's atom stands there -/
def cpsN (lo hi : Int) : Nat := if hi = -1 then (lo + 1).toNat else hi.toNat
def repL (fork lo hi : Int) (X : List INS) : List INS := if cpsN lo hi = 0 then [] else moreL fork lo hi (cpsN lo hi) X (cpsN lo hi) 0 ++ tailL hi X
theorem PL_rep {A X : List INS} {fork lo hi : Int} (hQ : 400 ≤ Q) (hg : al5 g) (hf : fork ≠ 0) (hlo : 0 ≤ lo ∧ lo ≤ 20) (hhi : -1 ≤ hi ∧ hi ≤ 20) (hp : PL g U (A ++ X)) (hl : A.length + (repL fork lo hi X).length ≤ 208) : ∃ V, jm_75 Q g (A.length : Int) lo hi fork U = some ((), V) ∧ FRp g U V ∧ PL g V (A ++ repL fork lo hi X) := by
  have hl0 := hp.2.1
  have h5 := hp.1
  rw [List.length_append] at hl0 h5
  have hc : cpsN lo hi ≤ 21 := by
    unfold cpsN
    split <;> omega
  obtain ⟨c, hcE⟩ : ∃ c, c = cpsN lo hi := ⟨_, rfl⟩
  have start : ∀ J : Int → Int → ev_St → Option (Unit × ev_St), (ev_b (U.1 g 5) fun x1 => ev_ck (x1 - (A.length : Int)) fun x2 => ev_jn J fun K20 => if hi ≠ (-1) then (K20 x2 hi U) else (ev_ck (lo + 1) fun x94 => K20 x2 x94 U)) = J (X.length : Int) (c : Int) U := fun J => by
    rw [sp_b, h5, sp_ck (by omega), show ((A.length + X.length : Nat) : Int) - (A.length : Int) = (X.length : Int) from by omega, sp_jn]
    by_cases z : hi = -1
    · rw [if_neg (fun y => y z), sp_ck (by omega), show lo + 1 = (c : Int) from by rw [hcE]; unfold cpsN; rw [if_pos z]; omega]
    · rw [if_pos z, show hi = (c : Int) from by rw [hcE]; unfold cpsN; rw [if_neg z]; omega]
  unfold jm_75
  rw [start]
  try dsimp only
  rw [← hcE] at hc
  by_cases c0 : c = 0
  · have er : repL fork lo hi X = [] := by
      unfold repL
      rw [← hcE, if_pos c0]
    rw [er, List.append_nil]
    refine ⟨ev_pI U g 5 (A.length : Int), ?_, ⟨fun x i z => by rw [sp_pI1, if_neg (by omega)], fun _ _ _ _ => rfl, rfl⟩, rd_eq, by omega, fun i x hx => ?_⟩
    · rw [if_neg (by omega), sp_b]
    · have hi : i < A.length := by
        by_cases y : i < A.length
        · exact y
        · rw [List.getElem?_eq_none (by omega)] at hx
          cases hx
      have q := hp.2.2 i x (by rw [List.getElem?_append_left hi]; exact hx)
      rw [rd_nk (by omega), rd_nk (by omega)]
      exact q
  · have er : repL fork lo hi X = moreL fork lo hi c X c 0 ++ tailL hi X := by
      unfold repL
      rw [← hcE, if_neg c0]
    rw [er] at hl ⊢
    rw [List.length_append] at hl
    obtain ⟨c1, hc1⟩ : ∃ c1, c = c1 + 1 := ⟨c - 1, by omega⟩
    obtain ⟨far, hfar⟩ : ∃ far, far = (if hi = -1 then (X.length : Int) + 2 else ((c : Int) - ((0 : Nat) : Int)) * ((X.length : Int) + 1)) := ⟨_, rfl⟩
    have b1 : 0 ≤ (c : Int) * ((X.length : Int) + 1) ∧ (c : Int) * ((X.length : Int) + 1) ≤ 21 * 209 := ⟨Int.mul_nonneg (by omega) (by omega), Int.mul_le_mul (by omega) (by omega) (by omega) (by omega)⟩
    have eM : moreL fork lo hi c X c 0 = (if ((0 : Nat) : Int) < lo then [] else [ins fork far]) ++ X ++ moreL fork lo hi c X c1 1 := by
      have : ∀ n, n = c1 + 1 → moreL fork lo hi c X n 0 = (if ((0 : Nat) : Int) < lo then [] else [ins fork far]) ++ X ++ moreL fork lo hi c X c1 1 := fun n hn => by
        rw [hn, hfar]
        rfl
      exact this c hc1
    rw [eM] at hl ⊢
    rw [List.length_append, List.length_append] at hl
    rw [if_pos (by omega), sp_jn]
    by_cases z0 : lo = 0
    · have z1 : ¬ ((0 : Nat) : Int) < lo := by omega
      rw [if_neg z1] at hl ⊢
      have hl' : A.length + (1 + X.length + (moreL fork lo hi c X c1 1).length + (tailL hi X).length) ≤ 208 := hl
      obtain ⟨V1, v1, v2, v3⟩ := PL_ins (Q := Q) (A := A) (B := X) (a := fork) (b := far) (c := Int64.ofNat ((0 : Fin 2) : Nat)) (d := Int64.ofNat ((0 : Fin 2) : Nat)) hg hf hp (by omega)
      have v2' : PL g V1 ((A ++ [ins fork far]) ++ X ++ []) := by
        rw [List.append_nil, List.append_assoc]
        exact v2
      have la : (A ++ [ins fork far]).length = A.length + 1 := by
        rw [List.length_append]
        rfl
      obtain ⟨V, w1, w2, w3⟩ := PL_75l (Q := Q) (A := A ++ [ins fork far]) (X := X) (fork := fork) (lo := lo) (hi := hi) (copies := c) hQ hg hlo hhi hc c1 Q 1 [] V1 (by omega) (by omega) v2' (by rw [la]; show A.length + 1 + X.length + 0 + _ + _ ≤ 208; omega)
      refine ⟨V, ?_, FRp_t v3 w2, ?_⟩
      · rw [if_neg (fun y => y z0), sp_jn]
        rw [la] at w1
        by_cases zh : hi = -1
        · rw [if_neg (fun y => y zh), sp_ck (by omega)]
          try dsimp only
          rw [show (X.length : Int) + 2 = far from by rw [hfar, if_pos zh], v1, sp_bd, sp_ck (by omega), show (A.length : Int) + 1 = ((A.length + 1 : Nat) : Int) from by omega]
          exact w1
        · rw [if_pos zh, sp_ck (by omega), sp_ck (by omega)]
          try dsimp only
          rw [show (c : Int) * ((X.length : Int) + 1) = far from by rw [hfar, if_neg zh, show (c : Int) - ((0 : Nat) : Int) = (c : Int) from by omega], v1, sp_bd, sp_ck (by omega), show (A.length : Int) + 1 = ((A.length + 1 : Nat) : Int) from by omega]
          exact w1
      · have e : A ++ ([ins fork far] ++ X ++ moreL fork lo hi c X c1 1 ++ tailL hi X) = A ++ [ins fork far] ++ X ++ ([] ++ moreL fork lo hi c X c1 1 ++ tailL hi X) := by simp only [List.append_assoc, List.nil_append]
        rw [e]
        exact w3
    · have z1 : ((0 : Nat) : Int) < lo := by omega
      rw [if_pos z1] at hl ⊢
      have hl' : A.length + (0 + X.length + (moreL fork lo hi c X c1 1).length + (tailL hi X).length) ≤ 208 := hl
      obtain ⟨V, w1, w2, w3⟩ := PL_75l (Q := Q) (A := A) (X := X) (fork := fork) (lo := lo) (hi := hi) (copies := c) hQ hg hlo hhi hc c1 Q 1 [] U (by omega) (by omega) (by rw [List.append_nil]; exact hp) (by show A.length + X.length + 0 + _ + _ ≤ 208; omega)
      refine ⟨V, ?_, w2, ?_⟩
      · rw [if_pos z0]
        exact w1
      · have e : A ++ ([] ++ X ++ moreL fork lo hi c X c1 1 ++ tailL hi X) = A ++ X ++ ([] ++ moreL fork lo hi c X c1 1 ++ tailL hi X) := by simp only [List.append_assoc, List.nil_append]
        rw [e]
        exact w3
end PROG2
