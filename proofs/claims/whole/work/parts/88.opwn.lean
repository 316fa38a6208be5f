/-! FACTS: which engines a pattern has -/
section FACTE
variable {Q k b e N M m t o p : Nat} {φ ψ own up : Nat → Nat} {W : Nat → FV} {S T U V : ev_St}
/-- the least character of a set -/
def lowC (l h : Int64) : Nat → Int → Int
  | 0, _ => -1
  | n + 1, c => if cs l h c = 1 then c else lowC l h n (c + 1)
theorem cs_01 {l h : Int64} {c : Int} : cs l h c = 0 ∨ cs l h c = 1 := by
  unfold cs
  by_cases z : 0 ≤ c ∧ c < 128 ∧ (if c < 64 then lb l c.toNat else lb h (c - 64).toNat) = true
  · exact Or.inr (if_pos z)
  · exact Or.inl (if_neg z)
theorem run30 {l h : Int64} : ∀ (n q : Nat) (c : Int), n < q → c + n = 128 → 0 ≤ c → jl_30_3 Q l h q c U = some (lowC l h n c, U)
  | n, 0, c, h1, _, _ => by omega
  | 0, q + 1, c, _, h2, _ => by
    show jb_30_3 Q l h _ c U = _
    unfold jb_30_3
    rw [if_pos (by omega)]
    rfl
  | n + 1, q + 1, c, h1, h2, h3 => by
    show jb_30_3 Q l h _ c U = _
    unfold jb_30_3 lowC
    rw [if_neg (by omega), sp_214, sp_bd]
    by_cases z : cs l h c = 1
    · rw [if_pos z, z, if_neg (by decide)]
    · have z0 : cs l h c = 0 := by
        rcases cs_01 (l := l) (h := h) (c := c) with y | y
        · exact y
        · exact absurd y z
      rw [if_neg z, z0, if_pos rfl, sp_ck (by omega)]
      exact run30 n q (c + 1) (by omega) (by omega) (by omega)
theorem sp_30 {l h : Int64} (hQ : 400 ≤ Q) : jm_30 Q l h U = some (lowC l h 128 0, U) := run30 128 Q 0 (by omega) (by omega) (by omega)
/-- a node that threads take -/
def okT (M k : Nat) (S : ev_St) (W : Nat → FV) (b : Nat) : Prop := ¬ (7 ≤ S.1 (k + 1) b ∧ S.1 (k + 1) b ≤ 12) ∧ ¬ (19 ≤ S.1 (k + 1) b) ∧ ¬ ((S.1 (k + 1) b = 13 ∨ S.1 (k + 1) b = 14) ∧ S.1 (k + 3) b = -1 ∧ ∃ e : Nat, S.1 (k + 4) b = (e : Int) ∧ e < M ∧ (W e).1 = 0)
theorem run38 (hk : ev_isOb k 5 = true) (hM : M ≤ 400) (hr : U.2.2.1 221 9 = k + 1) (h11 : U.1 k 11 = (M : Int)) (hlt : ∀ b, b < M → U.1 (k + 4) b < (b : Int)) : ∀ (n q i : Nat), n < q → i + n = M → ∃ v : Int, jl_38_2 Q q (i : Int) U = some (v, U) ∧ ((v = 1 ∧ ∀ b, i ≤ b → b < M → okT M k U (val U) b) ∨ (v = 0 ∧ ∃ b, b < M ∧ ¬ okT M k U (val U) b))
  | n, 0, i, h, _ => by omega
  | 0, q + 1, i, _, hi => by
    refine ⟨1, ?_, Or.inl ⟨rfl, fun b a c => by omega⟩⟩
    show jb_38_2 Q _ _ U = _
    unfold jb_38_2
    rw [sp_b, hr, sp_if (by omega), show k + 1 - 1 = k from rfl, sp_b, h11, if_pos (by omega)]
  | n + 1, q + 1, i, hq, hi => by
    obtain ⟨l1, l2, l3, l4, l5, _⟩ := al_Pt hk
    obtain ⟨l22, _⟩ := al_G
    obtain ⟨v, r1, r2⟩ := run38 hk hM hr h11 hlt n q (i + 1) (by omega) (by omega)
    have go : ∀ X : Int → Int, True := fun _ => trivial
    -- one node
    have st : jb_38_2 Q (jl_38_2 Q q) (i : Int) U = if 19 ≤ U.1 (k + 1) i ∨ (7 ≤ U.1 (k + 1) i ∧ U.1 (k + 1) i ≤ 12) ∨ ((U.1 (k + 1) i = 13 ∨ U.1 (k + 1) i = 14) ∧ U.1 (k + 3) i = -1 ∧ (0 ≤ U.1 (k + 4) i ∧ U.1 (k + 4) i < (M : Int)) ∧ U.1 222 (U.1 (k + 4) i).toNat = 0) then some (0, U) else jl_38_2 Q q ((i : Int) + 1) U := by
      have l4' := hlt i (by omega)
      unfold jb_38_2
      rw [sp_b, hr, sp_if (by omega), show k + 1 - 1 = k from rfl, sp_b, h11, if_neg (by omega), if_neg (by omega), sp_b, sp_if (by omega), show k + 1 - 1 = k from rfl, sp_if (by rw [l1]; omega), sp_b, Int.toNat_natCast, sp_b, sp_if (by omega), show k + 1 - 1 = k from rfl, sp_if (by rw [l4]; omega), sp_b, sp_62, sp_bd, sp_jn, sp_jn]
      generalize hkd : U.1 (k + 1) i = kd
      generalize hch : U.1 (k + 4) i = ch
      have tl : (if kd < 7 then (if (19 : Int) ≤ kd ∨ (7 ≤ kd ∧ kd ≤ 12) then some (0, U) else jl_38_2 Q q ((i : Int) + 1) U) else (if (19 : Int) ≤ kd ∨ (7 ≤ kd ∧ kd ≤ 12) then some (0, U) else jl_38_2 Q q ((i : Int) + 1) U)) = (if (19 : Int) ≤ kd ∨ (7 ≤ kd ∧ kd ≤ 12) then some (0, U) else jl_38_2 Q q ((i : Int) + 1) U) := by
        split <;> rfl
      have t94 : (ev_jn (fun (s32 : ev_St) => ev_jn (fun (x33 : Int) (s37 : ev_St) => if x33 = 0 then (ev_ck ((i : Int) + 1) fun x39 => jl_38_2 Q q x39 s37) else (some ((0 : Int), s37))) fun K117 => ev_jn (fun (s43 : ev_St) => K117 1 s43) fun K112 => ev_jn (fun (s48 : ev_St) => if kd < 19 then (K117 0 s48) else (K112 s48)) fun K106 => if kd < 7 then (K106 s32) else (if kd ≤ 12 then (K112 s32) else (K106 s32))) fun K94 => K94 U) = (if (19 : Int) ≤ kd ∨ (7 ≤ kd ∧ kd ≤ 12) then some (0, U) else jl_38_2 Q q ((i : Int) + 1) U) := by
        rw [sp_jn]
        try dsimp only
        rw [sp_jn, sp_jn, sp_jn]
        try dsimp only
        by_cases a : kd < 7
        · rw [if_pos a, if_pos (by omega), if_pos rfl, sp_ck (by omega), if_neg (by omega)]
        · by_cases b : kd ≤ 12
          · rw [if_neg a, if_pos b, if_neg (by decide), if_pos (by omega)]
          · by_cases c : kd < 19
            · rw [if_neg a, if_neg b, if_pos c, if_pos rfl, sp_ck (by omega), if_neg (by omega)]
            · rw [if_neg a, if_neg b, if_neg c, if_neg (by decide), if_pos (by omega)]
      rw [sp_jn] at t94
      try dsimp only at t94
      by_cases c1 : kd = 13 ∨ kd = 14
      · rw [if_neg (show ¬ ((if kd = 13 ∨ kd = 14 then (1 : Int) else 0) = 0) by rw [if_pos c1]; decide), sp_b, hr, sp_if (by omega), show k + 1 - 1 = k from rfl, sp_if (by rw [l3]; omega), sp_b]
        by_cases c2 : U.1 (k + 3) i = -1
        · rw [if_neg (fun z => z c2)]
          try dsimp only
          rw [sp_jn, if_neg (by decide), sp_b, hr, sp_if (by omega), show k + 1 - 1 = k from rfl, sp_59, sp_bd, h11]
          by_cases c3 : 0 ≤ ch ∧ ch < (M : Int) ∧ ch < 400
          · rw [if_neg (show ¬ ((if 0 ≤ ch ∧ ch < (M : Int) ∧ ch < 400 then (1 : Int) else 0) = 0) by rw [if_pos c3]; decide), sp_if (by rw [l22]; omega), sp_b]
            by_cases c4 : U.1 222 ch.toNat = 0
            · rw [if_neg (fun z => z c4), if_pos (Or.inr (Or.inr ⟨c1, c2, ⟨c3.1, c3.2.1⟩, c4⟩))]
            · rw [if_pos c4]
              try dsimp only
              rw [t94]
              by_cases c5 : (19 : Int) ≤ kd ∨ (7 ≤ kd ∧ kd ≤ 12)
              · omega
              · rw [if_neg c5, if_neg (fun z => by rcases z with z | z | z; exact c5 (Or.inl z); exact c5 (Or.inr z); exact c4 z.2.2.2)]
          · rw [if_pos (show (if 0 ≤ ch ∧ ch < (M : Int) ∧ ch < 400 then (1 : Int) else 0) = 0 from if_neg c3)]
            try dsimp only
            rw [t94]
            by_cases c5 : (19 : Int) ≤ kd ∨ (7 ≤ kd ∧ kd ≤ 12)
            · omega
            · rw [if_neg c5, if_neg (fun z => by rcases z with z | z | z; exact c5 (Or.inl z); exact c5 (Or.inr z); exact c3 ⟨z.2.2.1.1, z.2.2.1.2, by omega⟩)]
        · rw [if_pos c2]
          try dsimp only
          rw [sp_jn, if_pos rfl]
          try dsimp only
          rw [t94]
          by_cases c5 : (19 : Int) ≤ kd ∨ (7 ≤ kd ∧ kd ≤ 12)
          · omega
          · rw [if_neg c5, if_neg (fun z => by rcases z with z | z | z; exact c5 (Or.inl z); exact c5 (Or.inr z); exact c2 z.2.1)]
      · rw [if_pos (show (if kd = 13 ∨ kd = 14 then (1 : Int) else 0) = 0 from if_neg c1)]
        try dsimp only
        rw [sp_jn, if_pos rfl]
        try dsimp only
        rw [t94]
        by_cases c5 : (19 : Int) ≤ kd ∨ (7 ≤ kd ∧ kd ≤ 12)
        · rw [if_pos c5, if_pos (by rcases c5 with z | z; exact Or.inl z; exact Or.inr (Or.inl z))]
        · rw [if_neg c5, if_neg (fun z => by rcases z with z | z | z; exact c5 (Or.inl z); exact c5 (Or.inr z); exact c1 z.1)]
    have l4' := hlt i (by omega)
    by_cases c : 19 ≤ U.1 (k + 1) i ∨ (7 ≤ U.1 (k + 1) i ∧ U.1 (k + 1) i ≤ 12) ∨ ((U.1 (k + 1) i = 13 ∨ U.1 (k + 1) i = 14) ∧ U.1 (k + 3) i = -1 ∧ (0 ≤ U.1 (k + 4) i ∧ U.1 (k + 4) i < (M : Int)) ∧ U.1 222 (U.1 (k + 4) i).toNat = 0)
    · refine ⟨0, ?_, Or.inr ⟨rfl, i, by omega, ?_⟩⟩
      · show jb_38_2 Q _ _ U = _
        rw [st, if_pos c]
      · rintro ⟨z1, z2, z3⟩
        rcases c with y | y | ⟨y1, y2, y3, y4⟩
        · exact z2 y
        · exact z1 y
        · exact z3 ⟨y1, y2, (U.1 (k + 4) i).toNat, by omega, by omega, y4⟩
    · refine ⟨v, ?_, ?_⟩
      · show jb_38_2 Q _ _ U = _
        rw [st, if_neg c, show (i : Int) + 1 = ((i + 1 : Nat) : Int) from by omega]
        exact r1
      · rcases r2 with ⟨a1, a2⟩ | a
        · refine Or.inl ⟨a1, fun b h1 h2 => ?_⟩
          by_cases e : b = i
          · subst e
            refine ⟨fun z => c (Or.inr (Or.inl z)), fun z => c (Or.inl z), fun ⟨z1, z2, e, z3, z4, z5⟩ => c (Or.inr (Or.inr ⟨z1, z2, by omega, ?_⟩))⟩
            rw [z3, Int.toNat_natCast]
            exact z5
          · exact a2 b (by omega) h2
        · exact Or.inr a
theorem run39 (hk : ev_isOb k 5 = true) (hM : M ≤ 400) (hr : U.2.2.1 221 9 = k + 1) (h11 : U.1 k 11 = (M : Int)) : ∀ (n q i : Nat), n < q → i + n = M → ∃ v : Int, jl_39_2 Q q (i : Int) U = some (v, U) ∧ ((v = 0 ∧ ∀ b, i ≤ b → b < M → ¬ (1 ≤ U.1 (k + 1) b ∧ U.1 (k + 1) b ≤ 6)) ∨ (v = 1 ∧ ∃ b, b < M ∧ 1 ≤ U.1 (k + 1) b ∧ U.1 (k + 1) b ≤ 6))
  | n, 0, i, h, _ => by omega
  | 0, q + 1, i, _, hi => by
    refine ⟨0, ?_, Or.inl ⟨rfl, fun b a c => by omega⟩⟩
    show jb_39_2 Q _ _ U = _
    unfold jb_39_2
    rw [sp_b, hr, sp_if (by omega), show k + 1 - 1 = k from rfl, sp_b, h11, if_pos (by omega)]
  | n + 1, q + 1, i, hq, hi => by
    obtain ⟨l1, _⟩ := al_Pt hk
    obtain ⟨v, r1, r2⟩ := run39 hk hM hr h11 n q (i + 1) (by omega) (by omega)
    by_cases c : 1 ≤ U.1 (k + 1) i ∧ U.1 (k + 1) i ≤ 6
    · refine ⟨1, ?_, Or.inr ⟨rfl, i, by omega, c⟩⟩
      show jb_39_2 Q _ _ U = _
      unfold jb_39_2
      rw [sp_b, hr, sp_if (by omega), show k + 1 - 1 = k from rfl, sp_b, h11, if_neg (by omega), if_neg (by omega), sp_b, sp_if (by omega), show k + 1 - 1 = k from rfl, sp_if (by rw [l1]; omega), sp_b, Int.toNat_natCast]
      unfold jm_61
      rw [if_neg (by omega), if_neg (by omega), sp_bd, if_neg (by decide)]
    · refine ⟨v, ?_, ?_⟩
      · show jb_39_2 Q _ _ U = _
        unfold jb_39_2
        rw [sp_b, hr, sp_if (by omega), show k + 1 - 1 = k from rfl, sp_b, h11, if_neg (by omega), if_neg (by omega), sp_b, sp_if (by omega), show k + 1 - 1 = k from rfl, sp_if (by rw [l1]; omega), sp_b, Int.toNat_natCast, sp_61o c, sp_bd, if_pos rfl, sp_ck (by omega), show (i : Int) + 1 = ((i + 1 : Nat) : Int) from by omega]
        exact r1
      · rcases r2 with ⟨a1, a2⟩ | a
        · refine Or.inl ⟨a1, fun b h1 h2 => ?_⟩
          by_cases e : b = i
          · subst e
            exact c
          · exact a2 b (by omega) h2
        · exact Or.inr a
end FACTE
