/-! PROGRAMS: the code of a node -/
section PROG6
variable {Q k g b e N M m t p : Nat} {X : Nat → Int} {f φ ψ own up lo : Nat → Nat} {Mb : Nat → Prop} {S T U V W : ev_St} {CA CI St : Nat → List INS} {Lt : Nat → List INS}
theorem run72c (hM : M ≤ 400) : ∀ (r q i : Nat) (U : ev_St), r < q → i + r = M → (∀ j, j < i → U.1 229 j = 0) → ∃ V, jl_72_3 Q g (k + 1) (229 + 1) (M : Int) q (i : Int) U = jl_72_25 Q (k + 1) (229 + 1) Q ((M : Int) - 1) V ∧ (∀ j, j < M → V.1 229 j = 0) ∧ (∀ x j, x ≠ 229 → V.1 x j = U.1 x j) ∧ V.2 = U.2
  | r, 0, i, U, h, _, _ => by omega
  | 0, q + 1, i, U, _, hi, h0 => by
    refine ⟨U, ?_, fun j hj => h0 j (by omega), fun _ _ _ => rfl, rfl⟩
    show jb_72_3 Q _ _ _ _ _ _ U = _
    unfold jb_72_3
    rw [if_pos (by omega), sp_ck (by omega)]
  | r + 1, q + 1, i, U, hq, hi, h0 => by
    have l229 := al228.2
    obtain ⟨V, v1, v2, v3, v4⟩ := run72c hM r q (i + 1) (ev_pI U 229 i 0) (by omega) (by omega) (fun j hj => by
      by_cases e : j = i
      · rw [e, rd_eq]
      · rw [rd_nf e]
        exact h0 j (by omega))
    refine ⟨V, ?_, v2, fun x j hx => by rw [v3 x j hx, rd_nk hx], v4⟩
    rw [← v1]
    show jb_72_3 Q _ _ _ _ _ _ U = _
    unfold jb_72_3
    rw [if_neg (by omega), sp_if (by omega), show (229 + 1 - 1 : Nat) = 229 from rfl, sp_if (by rw [l229]; omega), sp_b, Int.toNat_natCast, sp_ck (by omega), show (i : Int) + 1 = ((i + 1 : Nat) : Int) from by omega]
theorem sp_72 (hF : FINX k N M φ ψ own up S T) (hk : ev_isOb k 5 = true) (hkr : 232 ≤ k) (hQ : 500 ≤ Q) (hr2 : ∀ m, m < N → tR T m ≠ 2) : ∃ V, jm_72 Q g (k + 1) (229 + 1) (M : Int) S = some ((), V) ∧ (∀ x j, x ≠ 229 → V.1 x j = S.1 x j) ∧ V.2 = S.2 ∧ NVI k N φ ψ up T 0 V := by
  have hM : M ≤ 400 := hF.2.1.2.1
  have h := TREE_of hF
  have hN0 : 0 < N := hF.1.1.2.2.1
  obtain ⟨U, u1, u2, u3, u4⟩ := run72c (Q := Q) (g := g) (k := k) hM M Q 0 S (by omega) (by omega) (fun j hj => by omega)
  obtain ⟨V, v1, v2, v3, v4⟩ := run72 (Q := Q) hF hk hkr (by omega) hr2 M Q U (by omega) (Nat.le_refl _) u3 ⟨fun t ht h0 => ⟨fun z => by have := (h.1 (up t) (hF.1.2.1.1.1 t ht)).1; omega, fun _ => u2 _ (h.1 t ht).2.1⟩, fun m hm hr => ⟨fun z => by have := (h.1 m hm).2.1; omega, fun _ => u2 _ (h.1 m hm).1⟩, u2 _ (h.1 0 hN0).1⟩
  refine ⟨V, ?_, fun x j hx => (v2 x j hx).trans (u3 x j hx), v3.trans u4, v4⟩
  unfold jm_72
  rw [show (0 : Int) = ((0 : Nat) : Int) from rfl, u1]
  exact v1
/-- the code of each node: CA without its repeat, CI with it -/
def CDQ (k N : Nat) (φ : Nat → Nat) (S T : ev_St) (CA CI : Nat → List INS) : Prop := ∀ m, m < N → (tK T m = 0 → CA m = [(0, 0, S.2.1 (k + 8) (φ m), S.2.1 (k + 9) (φ m))]) ∧ (1 ≤ tK T m ∧ tK T m ≤ 6 → CA m = [ins 1 (S.1 (k + 1) (φ m))]) ∧ (tK T m = 18 → CA m = ((lstC (tX T) 320 (tC T m)).map CI).flatten) ∧ (tK T m = 8 → CA m = ins 5 (2 * T.1 628 (3840 + m)) :: cdR ((lstC (tX T) 320 (tC T m)).map CI) ++ [ins 5 (2 * T.1 628 (3840 + m) + 1)]) ∧ (tK T m = 9 → CA m = cdR ((lstC (tX T) 320 (tC T m)).map CI)) ∧ (tR T m = -1 → CI m = CA m) ∧ (tR T m = 0 → CI m = repL 3 (tL T m) (tH T m) (CA m)) ∧ (tR T m = 1 → CI m = repL 4 (tL T m) (tH T m) (CA m))
/-- what a chain's codes come to -/
theorem cat_all (hF : FINX k N M φ ψ own up S T) (hL : LOf N M φ ψ up lo T) (hm : m < N) (hs : ∀ t, Kid N up T m t → Lt (ψ t + 1) = Lt (lo t) ++ St t) : Lt (φ m) = Lt (lo m) ++ ((lstC (tX T) 320 (tC T m)).map St).flatten := by
  have h := TREE_of hF
  have hN : N ≤ 320 := hF.2.1.2.2.2
  have hX := Kid_X h (m := m)
  obtain ⟨_, a1, a2, a3, a4, _, _⟩ := hL
  have go : ∀ (n b0 u : Nat), N ≤ b0 + n → b0 ≤ u → Kid N up T m u → Lt (φ m) = Lt (lo u) ++ ((lstC (tX T) n (u : Int)).map St).flatten := fun n => by
    induction n with
    | zero =>
      intro b0 u h1 h2 h3
      have := h3.1
      omega
    | succ n ih =>
      intro b0 u h1 h2 h3
      have e : lstC (tX T) (n + 1) (u : Int) = u :: lstC (tX T) n (tX T u) := by rw [lstC, if_neg (by omega), Int.toNat_natCast]
      rw [e, List.map_cons, List.flatten_cons, ← List.append_assoc, ← hs u h3]
      rcases (hX u h3).2 with z | ⟨v, z, z1, z2⟩
      · have e2 : lstC (tX T) n (tX T u) = [] := by
          rw [z]
          cases n with
          | zero => rfl
          | succ n => rw [lstC, if_pos rfl]
        have q := a4 u h3.1 h3.2.1 z
        rw [h3.2.2.1] at q
        rw [e2, q]
        simp
      · have q := a3 u v h3.1 z
        rw [z, ← q.1]
        exact ih (b0 + 1) v (by omega) (by omega) z2
  rcases Kid_C h hm with z | ⟨u, z, z1, z2⟩
  · have e : lstC (tX T) 320 (tC T m) = [] := by rw [z, lstC, if_pos rfl]
    rw [e, a1 m hm z]
    simp
  · have q := a2 m u hm z
    rw [z, ← q.1]
    exact go 320 0 u (by omega) (by omega) z2
/-- rows as they are stored, one behind another, jumps not aimed yet -/
theorem pre_all (hX : mbX N X Mb) (hs : ∀ t, Mb t → (X t = -1 → St t = CI t) ∧ (X t ≠ -1 → St t = (ins 3 (((CI t).length : Int) + 2) :: CI t) ++ [ins 2 0])) : ∀ (n b0 u : Nat), N ≤ b0 + n → b0 ≤ u → Mb u → ((lstC X n (u : Int)).map St).flatten = preR ((lstC X n (u : Int)).map CI) := fun n => by
  induction n with
  | zero =>
    intro b0 u h1 h2 h3
    have := (hX u h3).1
    omega
  | succ n ih =>
    intro b0 u h1 h2 h3
    have e : lstC X (n + 1) (u : Int) = u :: lstC X n (X u) := by rw [lstC, if_neg (by omega), Int.toNat_natCast]
    rw [e]
    rcases (hX u h3).2 with z | ⟨v, z, z1, z2⟩
    · have e2 : lstC X n (X u) = [] := by
        rw [z]
        cases n with
        | zero => rfl
        | succ n => rw [lstC, if_pos rfl]
      rw [e2, List.map_cons, List.map_cons, List.flatten_cons, (hs u h3).1 z]
      simp [preR]
    · have q := ih (b0 + 1) v (by omega) (by omega) z2
      cases n with
      | zero =>
        have := (hX v z2).1
        omega
      | succ n =>
        have e2 : lstC X (n + 1) (X u) = v :: lstC X n (X v) := by rw [z, lstC, if_neg (by omega), Int.toNat_natCast]
        have e3 : lstC X (n + 1) (v : Int) = v :: lstC X n (X v) := by rw [lstC, if_neg (by omega), Int.toNat_natCast]
        rw [e3] at q
        rw [e2, List.map_cons, List.flatten_cons, q, (hs u h3).2 (by omega)]
        simp [preR]
theorem cdR_len : ∀ rs : List (List INS), (cdR rs).length + 2 ≤ (rs.map List.length).sum + 2 * rs.length ∨ rs = []
  | [] => Or.inr rfl
  | [r] => Or.inl (by simp [cdR])
  | r :: s :: rs => Or.inl (by
    rcases cdR_len (s :: rs) with h | h
    · unfold cdR
      simp only [List.length_append, List.length_cons, List.map_cons, List.sum_cons] at h ⊢
      omega
    · cases h)
theorem moreL_n {fork lo hi : Int} {copies : Nat} {Y : List INS} : ∀ (r i : Nat), lo ≤ (i : Int) → (moreL fork lo hi copies Y r i).length = r * (Y.length + 1)
  | 0, i, _ => by simp [moreL]
  | r + 1, i, h => by
    unfold moreL
    rw [List.length_append, List.length_append, moreL_n r (i + 1) (by omega), if_neg (by omega), Nat.succ_mul]
    show 1 + Y.length + _ = _
    omega
theorem moreL_m {fork lo hi : Int} {copies : Nat} {Y : List INS} : ∀ (a r i : Nat), (i : Int) + a = lo → (moreL fork lo hi copies Y (a + r) i).length = a * Y.length + r * (Y.length + 1)
  | 0, r, i, h => by
    rw [Nat.zero_add, moreL_n r i (by omega)]
    omega
  | a + 1, r, i, h => by
    rw [show a + 1 + r = (a + r) + 1 from by omega]
    unfold moreL
    rw [List.length_append, List.length_append, moreL_m a r (i + 1) (by omega), if_pos (by omega), Nat.succ_mul]
    show 0 + Y.length + _ = _
    omega
/-- a repeat is no longer than its size tells -/
theorem repL_len {fork lo hi : Int} {Y : List INS} (hlo : 0 ≤ lo) (hhi : hi = -1 ∨ (0 ≤ hi ∧ lo ≤ hi)) : ((repL fork lo hi Y).length : Int) ≤ if hi = -1 then (Y.length : Int) * (lo + 1) + 2 else ((Y.length : Int) + 1) * hi := by
  unfold repL
  by_cases z : hi = -1
  · have ec : cpsN lo hi = lo.toNat + 1 := by
      unfold cpsN
      rw [if_pos z]
      omega
    have et : tailL hi Y = [ins 2 (-((Y.length : Int) + 1))] := if_pos z
    rw [if_neg (by omega), if_pos z, List.length_append, et, ec, moreL_m lo.toNat 1 0 (by omega)]
    show ((lo.toNat * Y.length + 1 * (Y.length + 1) + 1 : Nat) : Int) ≤ _
    have e1 : ((lo.toNat * Y.length : Nat) : Int) = lo * (Y.length : Int) := by
      rw [Int.natCast_mul, Int.toNat_of_nonneg hlo]
    have e2 : (Y.length : Int) * (lo + 1) = lo * (Y.length : Int) + (Y.length : Int) := by rw [Int.mul_add, Int.mul_one, Int.mul_comm]
    omega
  · have h2 := hhi.resolve_left z
    have ec : cpsN lo hi = hi.toNat := by
      unfold cpsN
      rw [if_neg z]
    have et : tailL hi Y = [] := if_neg z
    rw [if_neg z, ec]
    by_cases z0 : hi.toNat = 0
    · rw [if_pos z0]
      exact Int.mul_nonneg (by omega) (by omega)
    · rw [if_neg z0, List.length_append, et]
      have l := moreL_len (fork := fork) (lo := lo) (hi := hi) (copies := hi.toNat) (X := Y) hi.toNat 0
      show ((_ + 0 : Nat) : Int) ≤ _
      have e1 : ((hi.toNat * (Y.length + 1) : Nat) : Int) = ((Y.length : Int) + 1) * hi := by
        rw [Int.natCast_mul, Int.toNat_of_nonneg h2.1, Int.mul_comm]
        rfl
      omega
end PROG6
