/-! PROGRAMS: the rows of a part, and its jumps -/
section PROG3
variable {Q k g b N : Nat} {X : Nat → Int} {f : Nat → Nat} {Mb : Nat → Prop} {S U V W : ev_St}
/-- a chain's members -/
def lstC (X : Nat → Int) : Nat → Int → List Nat
  | 0, _ => []
  | n + 1, c => if c = -1 then [] else c.toNat :: lstC X n (X c.toNat)
/-- rows, jumps not aimed yet -/
def preR : List (List INS) → List INS
  | [] => []
  | [r] => r
  | r :: s :: rs => (ins 3 ((r.length : Int) + 2) :: r) ++ ins 2 0 :: preR (s :: rs)
/-- rows: each but the last has a fork ahead of it and a jump to the end of all behind it -/
def cdR : List (List INS) → List INS
  | [] => []
  | [r] => r
  | r :: s :: rs => (ins 3 ((r.length : Int) + 2) :: r) ++ ins 2 (((cdR (s :: rs)).length : Int) + 1) :: cdR (s :: rs)
theorem preR_len : ∀ rs, (preR rs).length = (cdR rs).length
  | [] => rfl
  | [r] => rfl
  | r :: s :: rs => by
    have := preR_len (s :: rs)
    unfold preR cdR
    simp only [List.length_append, List.length_cons, this]
theorem PL_far {A B : List INS} {a x y : Int} {c d : Int64} (hg : al5 g) (ha : a ≠ 0) (h : PL g U (A ++ (a, x, c, d) :: B)) : PL g (ev_pI U (g + 2) A.length y) (A ++ (a, y, c, d) :: B) ∧ FRp g U (ev_pI U (g + 2) A.length y) := by
  obtain ⟨h1, h2, h3⟩ := h
  rw [List.length_append, List.length_cons] at h1 h2
  refine ⟨⟨?_, ?_, fun i z hz => ?_⟩, fun x' i z => by rw [sp_pI1, if_neg (by omega)], fun _ _ _ _ => rfl, rfl⟩
  · rw [rd_nk (by omega), List.length_append, List.length_cons]
    exact h1
  · rw [List.length_append, List.length_cons]
    exact h2
  · by_cases e : i < A.length
    · rw [List.getElem?_append_left e] at hz
      have q := h3 i z (by rw [List.getElem?_append_left e]; exact hz)
      rw [rd_nk (by omega), rd_nf (by omega)]
      exact q
    · rw [List.getElem?_append_right (by omega)] at hz
      by_cases e2 : i = A.length
      · rw [e2, Nat.sub_self] at hz
        have hz' : (a, y, c, d) = z := Option.some.inj hz
        have q := h3 A.length (a, x, c, d) (by rw [List.getElem?_append_right (Nat.le_refl _), Nat.sub_self]; rfl)
        rw [← hz', e2, rd_nk (by omega), rd_eq]
        exact ⟨q.1, rfl, fun z0 => absurd z0 ha⟩
      · obtain ⟨j, hj⟩ : ∃ j, i - A.length = j + 1 := ⟨i - A.length - 1, by omega⟩
        rw [hj, List.getElem?_cons_succ] at hz
        have q := h3 i z (by rw [List.getElem?_append_right (by omega), hj, List.getElem?_cons_succ]; exact hz)
        rw [rd_nk (by omega), rd_nf (by omega)]
        exact q
/-- what aiming wants of the rows: their nodes, where they begin -/
def aimW (k : Nat) (f : Nat → Nat) (X : Nat → Int) (Mb : Nat → Prop) (code : Nat → List INS) (bg : Nat → Nat) (U : ev_St) : Prop := ∀ t, Mb t → U.1 (k + 5) (f t) = img f (X t) ∧ (f t : Int) < U.1 k 11 ∧ f t < 400 ∧ U.1 228 (f t) = (bg t : Int) ∧ ∀ u : Nat, X t = (u : Int) → bg u = bg t + (code t).length + 2
theorem aimW_c {code : Nat → List INS} {bg : Nat → Nat} (h : aimW k f X Mb code bg U) (h1 : ∀ x i, x = k + 5 ∨ x = 228 ∨ (x = k ∧ i = 11) → V.1 x i = U.1 x i) : aimW k f X Mb code bg V := fun t ht => by
  obtain ⟨a, b, c, d, e⟩ := h t ht
  exact ⟨by rw [h1 _ _ (Or.inl rfl)]; exact a, by rw [h1 _ _ (Or.inr (Or.inr ⟨rfl, rfl⟩))]; exact b, c, by rw [h1 _ _ (Or.inr (Or.inl rfl))]; exact d, e⟩
theorem aim_l {code : Nat → List INS} {bg : Nat → Nat} (hg : al5 g) (hgk : g = k + 12) (hkr : 232 ≤ k) (l5 : ev_aln (k + 5) = 400) (hX : mbX N X Mb) : ∀ (r q i b0 : Nat) (u : Nat) (A : List INS) (U : ev_St), r + 1 < q → N ≤ b0 + r → i + r < 400 → b0 ≤ u → Mb u → aimW k f X Mb code bg U → A.length = bg u → PL g U (A ++ preR ((lstC X r (u : Int)).map code)) → ∃ V, jl_74_11 Q g (k + 1) (228 + 1) q (f u : Int) (i : Int) U = some ((), V) ∧ FRp g U V ∧ PL g V (A ++ cdR ((lstC X r (u : Int)).map code))
  | r, 0, i, b0, u, A, U, h, _, _, _, _, _, _, _ => by omega
  | 0, q + 1, i, b0, u, A, U, _, hN, _, hb, hu, _, _, _ => by
    have := (hX u hu).1
    omega
  | r + 1, q + 1, i, b0, u, A, U, hq, hN, hi, hb, hu, hw, hA, hp => by
    obtain ⟨a1, a2, a3, a4, a5⟩ := hw u hu
    have l228 : ev_aln 228 = 400 := by decide +kernel
    obtain ⟨l1, l2, l3, l4, l5'⟩ := hg
    have el : lstC X (r + 1) (u : Int) = u :: lstC X r (X u) := by
      rw [lstC, if_neg (by omega), Int.toNat_natCast]
    rw [el] at hp ⊢
    have head : ∀ J : Int → ev_St → Option (Unit × ev_St), (∀ x23 s, J x23 s = J x23 s) → True := fun _ _ => trivial
    obtain ⟨q, rfl⟩ : ∃ z, q = z + 1 := ⟨q - 1, by omega⟩
    rcases (hX u hu).2 with hx | ⟨v, hx, hv1, hv2⟩
    · have er : lstC X r (X u) = [] := by
        rw [hx]
        cases r with
        | zero => rfl
        | succ r => rw [lstC, if_pos rfl]
      rw [er] at hp ⊢
      refine ⟨U, ?_, FRp_r, hp⟩
      show jb_74_11 Q g _ _ _ _ _ U = _
      unfold jb_74_11
      rw [if_neg (by omega), sp_if (by omega), show k + 1 - 1 = k from rfl, sp_59, sp_bd, if_neg (show ¬ ((if 0 ≤ (f u : Int) ∧ (f u : Int) < U.1 k 11 ∧ (f u : Int) < 400 then (1 : Int) else 0) = 0) by rw [if_pos ⟨by omega, a2, by omega⟩]; decide), sp_if (by omega), sp_if (by rw [l5]; omega), sp_b, Int.toNat_natCast, a1, hx, show img f (-1) = -1 from if_pos rfl, sp_if (by omega), sp_59, sp_bd, sp_jn, if_pos (show (if (0 : Int) ≤ -1 ∧ -1 < U.1 k 11 ∧ (-1 : Int) < 400 then (1 : Int) else 0) = 0 from if_neg (by omega))]
      try dsimp only
      rw [sp_70 hp.1, sp_bd, sp_jn, if_pos (show (if (0 : Int) ≤ -1 ∧ (-1 : Int) < _ ∧ (-1 : Int) < 208 then (1 : Int) else 0) = 0 from if_neg (by omega))]
      try dsimp only
      rw [sp_ck (by omega)]
      show jb_74_11 Q g _ _ _ _ _ U = _
      unfold jb_74_11
      by_cases z : 400 ≤ (i : Int) + 1
      · rw [if_pos z]
      · rw [if_neg z, sp_if (by omega), show k + 1 - 1 = k from rfl, sp_59, sp_bd, if_pos (show (if (0 : Int) ≤ -1 ∧ -1 < U.1 k 11 ∧ (-1 : Int) < 400 then (1 : Int) else 0) = 0 from if_neg (by omega))]
    · obtain ⟨c1, c2, c3, c4, _⟩ := hw v hv2
      have bv := a5 v hx
      cases r with
      | zero =>
        have := (hX v hv2).1
        omega
      | succ r =>
        have er : lstC X (r + 1) (X u) = v :: lstC X r (X v) := by
          rw [hx, lstC, if_neg (by omega), Int.toNat_natCast]
        have er2 : lstC X (r + 1) (v : Int) = v :: lstC X r (X v) := by rw [lstC, if_neg (by omega), Int.toNat_natCast]
        have em : (u :: lstC X (r + 1) (X u)).map code = code u :: code v :: (lstC X r (X v)).map code := by
          rw [er]
          rfl
        have em2 : (lstC X (r + 1) (v : Int)).map code = code v :: (lstC X r (X v)).map code := by
          rw [er2]
          rfl
        rw [em] at hp ⊢
        have ep : A ++ preR (code u :: code v :: (lstC X r (X v)).map code) = (A ++ ins 3 (((code u).length : Int) + 2) :: code u) ++ ins 2 0 :: preR (code v :: (lstC X r (X v)).map code) := by
          show A ++ ((ins 3 (((code u).length : Int) + 2) :: code u) ++ ins 2 0 :: preR (code v :: (lstC X r (X v)).map code)) = _
          rw [List.append_assoc]
        rw [ep] at hp
        have lA : (A ++ ins 3 (((code u).length : Int) + 2) :: code u).length = A.length + (code u).length + 1 := by
          rw [List.length_append, List.length_cons]
          omega
        obtain ⟨y, hy⟩ : ∃ y, y = ((cdR (code v :: (lstC X r (X v)).map code)).length : Int) + 1 := ⟨_, rfl⟩
        obtain ⟨p1, p2⟩ := PL_far (y := y) ⟨l1, l2, l3, l4, l5'⟩ (by decide) hp
        have hp1 := hp.1
        have hp2 := hp.2.1
        rw [List.length_append, lA, List.length_cons, preR_len] at hp1 hp2
        obtain ⟨V, w1, w2, w3⟩ := aim_l ⟨l1, l2, l3, l4, l5'⟩ hgk hkr l5 hX (r + 1) (q + 1) (i + 1) (b0 + 1) v ((A ++ ins 3 (((code u).length : Int) + 2) :: code u) ++ [ins 2 y]) _ (by omega) (by omega) (by omega) (by omega) hv2 (aimW_c hw (fun x j hj => p2.1 x j (by omega))) (by rw [List.length_append, lA]; show A.length + (code u).length + 1 + 1 = bg v; omega) (by rw [em2, List.append_assoc]; exact p1)
        refine ⟨V, ?_, FRp_t p2 w2, ?_⟩
        · rw [← w1]
          show jb_74_11 Q g _ _ _ _ _ U = _
          unfold jb_74_11
          have en : ((bg v : Int) - 1).toNat = (A ++ ins 3 (((code u).length : Int) + 2) :: code u).length := by rw [lA]; omega
          have ej : (bg v : Int) - 1 = ((A.length + (code u).length + 1 : Nat) : Int) := by omega
          rw [if_neg (by omega), sp_if (by omega), show k + 1 - 1 = k from rfl, sp_59, sp_bd, if_neg (show ¬ ((if 0 ≤ (f u : Int) ∧ (f u : Int) < U.1 k 11 ∧ (f u : Int) < 400 then (1 : Int) else 0) = 0) by rw [if_pos ⟨by omega, a2, by omega⟩]; decide), sp_if (by omega), sp_if (by rw [l5]; omega), sp_b, Int.toNat_natCast, a1, hx, img_n, sp_if (by omega), sp_59, sp_bd, sp_jn, if_neg (show ¬ ((if 0 ≤ (f v : Int) ∧ (f v : Int) < U.1 k 11 ∧ (f v : Int) < 400 then (1 : Int) else 0) = 0) by rw [if_pos ⟨by omega, c2, by omega⟩]; decide), sp_if (by omega), show (228 + 1 - 1 : Nat) = 228 from rfl, sp_if (by rw [l228]; omega), sp_b, Int.toNat_natCast, c4, sp_ck (by omega)]
          try dsimp only
          rw [sp_70 hp1, sp_bd, sp_jn, if_neg (show ¬ ((if 0 ≤ (bg v : Int) - 1 ∧ (bg v : Int) - 1 < ((A.length + (code u).length + 1 + ((cdR (code v :: (lstC X r (X v)).map code)).length + 1) : Nat) : Int) ∧ (bg v : Int) - 1 < 208 then (1 : Int) else 0) = 0) by rw [if_pos (by omega)]; decide), sp_b, hp1, sp_ck (by omega), sp_if (by rw [l2]; omega), sp_b, en, show ((A.length + (code u).length + 1 + ((cdR (code v :: (lstC X r (X v)).map code)).length + 1) : Nat) : Int) - ((bg v : Int) - 1) = y from by omega]
          try dsimp only
          rw [sp_ck (by omega), show (i : Int) + 1 = ((i + 1 : Nat) : Int) from by omega]
        · rw [em2] at w3
          have ec : A ++ cdR (code u :: code v :: (lstC X r (X v)).map code) = (A ++ ins 3 (((code u).length : Int) + 2) :: code u) ++ [ins 2 y] ++ cdR (code v :: (lstC X r (X v)).map code) := by
            show A ++ ((ins 3 (((code u).length : Int) + 2) :: code u) ++ ins 2 (((cdR (code v :: (lstC X r (X v)).map code)).length : Int) + 1) :: cdR (code v :: (lstC X r (X v)).map code)) = _
            rw [← hy]
            simp only [List.append_assoc, List.singleton_append]
          rw [ec]
          exact w3
end PROG3
