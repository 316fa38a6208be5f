/-! MATCHES, MATCH, given what one place comes to -/
section OPYN
variable {Q p k w len n m i j L : Nat} {xs : Nat → Int32} {S S0 S1 S2 T T0 T2 U V : ev_St} {B R : ev_St → ev_St → Prop} {a b x y g vc vr : Int}
def CFR (S S1 : ev_St) : Prop := (∀ c g, ¬ (281 ≤ c ∧ c ≤ 283) → S1.1 c g = S.1 c g) ∧ (∀ c g, S1.2.1 c g = S.2.1 c g) ∧ (∀ c g, c ≠ 281 → S1.2.2.1 c g = S.2.2.1 c g) ∧ S1.2.2.2 = S.2.2.2
theorem CFR_tr (h : CFR S S1) (h2 : CFR S1 S2) : CFR S S2 := ⟨fun c g y => (h2.1 c g y).trans (h.1 c g y), fun c g => (h2.2.1 c g).trans (h.2.1 c g), fun c g y => (h2.2.2.1 c g y).trans (h.2.2.1 c g y), h2.2.2.2.trans h.2.2.2⟩
def nxP (s e : Int) : Int := if e ≤ s then e + 1 else e
theorem nxP_b {s e : Int} (h : s ≤ e) : s + 1 ≤ nxP s e ∧ nxP s e ≤ e + 1 := by
  unfold nxP
  by_cases z : e ≤ s
  · rw [if_pos z]
    omega
  · rw [if_neg z]
    omega
theorem sp_117 (h : 0 ≤ S.1 281 12 ∧ S.1 281 12 ≤ 1000) : jm_117 Q S = some (nxP (S.1 281 11) (S.1 281 12), S) := by
  unfold jm_117 nxP
  rw [sp_b, sp_b]
  by_cases z : S.1 281 12 ≤ S.1 281 11
  · rw [if_pos z, if_pos z, sp_b, sp_ck (by omega)]
  · rw [if_neg z, if_neg z, sp_b]
theorem sp_333 (h7 : T.1 621 73 = (len : Int)) (h : 0 ≤ T.1 680 0 ∧ T.1 680 0 ≤ 1000) : jm_333 Q T = some (if nxP (T.1 679 0) (T.1 680 0) ≤ (len : Int) then nxP (T.1 679 0) (T.1 680 0) else -1, T) := by
  obtain ⟨l79, l80, _⟩ := al_Gt
  have tl : ∀ z : Int, (if z ≤ (len : Int) then (some (z, T) : Option (Int × ev_St)) else some (-1, T)) = some (if z ≤ (len : Int) then z else -1, T) := fun z => by
    by_cases y : z ≤ (len : Int)
    · rw [if_pos y, if_pos y]
    · rw [if_neg y, if_neg y]
  unfold jm_333
  rw [show Int.toNat 0 = 0 from rfl, sp_if (by rw [l80]; omega), sp_b, sp_if (by rw [l79]; omega), sp_b, sp_jn, ← tl]
  unfold nxP
  by_cases z : T.1 680 0 ≤ T.1 679 0
  · rw [if_pos z, if_pos z, sp_if (by rw [l80]; omega), sp_b, sp_ck (by omega)]
    try dsimp only
    rw [sp_b, h7]
  · rw [if_neg z, if_neg z, sp_if (by rw [l80]; omega), sp_b]
    try dsimp only
    rw [sp_b, h7]
theorem run_cnt (h : SIM Q p k w len B R) (hl : len ≤ 160) (hQ : 400 ≤ Q) : ∀ (r q q2 : Nat) (x c i : Int) (S T : ev_St), B S T → 0 ≤ i → i ≤ x → x ≤ 161 → 0 ≤ c → c ≤ i → (len : Int) + 1 - x ≤ (r : Int) → r < q → r + 1 < q2 → ∃ v S2 T2, jl_181_44 Q (k + 1) (w + 1) q x c i S = some (.inl v, S2) ∧ jl_334_44 Q (p : Int) q2 c (if x ≤ (len : Int) then x else -1) T = some (v, T2) ∧ CFR S S2 ∧ T2.1 621 0 = T.1 621 0 := fun r => by
  have fin : ∀ (q q2 : Nat) (x c i : Int) (S T : ev_St), B S T → (len : Int) < x → ∃ v S2 T2, jl_181_44 Q (k + 1) (w + 1) (q + 1) x c i S = some (.inl v, S2) ∧ jl_334_44 Q (p : Int) (q2 + 1) c (if x ≤ (len : Int) then x else -1) T = some (v, T2) ∧ CFR S S2 ∧ T2.1 621 0 = T.1 621 0 := fun q q2 x c i S T a1 a2 => by
    obtain ⟨c1, c2⟩ := h.2.1 S T a1
    refine ⟨c, S, T, ?_, ?_, ⟨fun _ _ _ => rfl, fun _ _ => rfl, fun _ _ _ => rfl, rfl⟩, rfl⟩
    · show jb_181_44 Q _ _ _ _ _ _ S = _
      unfold jb_181_44
      by_cases z : 160 < i
      · rw [if_pos z]
      · rw [if_neg z, sp_b, show w + 1 - 1 = w from rfl, c1, if_pos a2]
    · rw [if_neg (by omega)]
      show jb_334_44 Q _ _ _ _ T = _
      unfold jb_334_44
      rw [if_pos rfl]
  induction r with
  | zero =>
    intro q q2 x c i S T a1 a2 a3 a4 a5 a6 a7 a8 a9
    obtain ⟨q, rfl⟩ : ∃ r, q = r + 1 := ⟨q - 1, by omega⟩
    obtain ⟨q2, rfl⟩ : ∃ r, q2 = r + 1 := ⟨q2 - 1, by omega⟩
    exact fin q q2 x c i S T a1 (by omega)
  | succ r ih =>
    intro q q2 x c i S T a1 a2 a3 a4 a5 a6 a7 a8 a9
    obtain ⟨q, rfl⟩ : ∃ r, q = r + 1 := ⟨q - 1, by omega⟩
    obtain ⟨q2, rfl⟩ : ∃ r, q2 = r + 1 := ⟨q2 - 1, by omega⟩
    by_cases ex : (len : Int) < x
    · exact fin q q2 x c i S T a1 ex
    obtain ⟨c1, c2⟩ := h.2.1 S T a1
    obtain ⟨vc, vr, S2, T2, g1, g2, g3⟩ := sp_ahead h hl hQ a1 (show 0 ≤ x by omega)
    have f1 : CFR S S2 := frC ef_115 g1 (Or.inl rfl)
    have f2 : T2.1 621 0 = T.1 621 0 := (frR ef_308 g2 (Or.inr rfl)).1 _ _ (by omega) (by omega)
    have hc : jl_181_44 Q (k + 1) (w + 1) (q + 1) x c i S = if 0 ≤ vc then (ev_ck (c + 1) fun x24 => ev_bd (jm_117 Q S2) fun x26 s25 => ev_ck (i + 1) fun x27 => jl_181_44 Q (k + 1) (w + 1) q x26 x24 x27 s25) else (if vc ≠ (-2) then (some ((Sum.inl c : Int ⊕ String), S2)) else (some ((Sum.inl ((-2)) : Int ⊕ String), S2))) := by
      show jb_181_44 Q _ _ _ _ _ _ S = _
      unfold jb_181_44
      rw [if_neg (by omega), sp_b, show w + 1 - 1 = w from rfl, c1, if_neg ex, g1, sp_bd]
    have hr : jl_334_44 Q (p : Int) (q2 + 1) c x T = if vr ≠ (-2) then (ev_ck (c + vr) fun x25 => ev_jn (fun (x26 : Int) (x27 : Int) (s32 : ev_St) => jl_334_44 Q (p : Int) q2 x26 x27 s32) fun K89 => if vr ≠ 1 then (K89 x25 ((-1)) T2) else (ev_bd (jm_333 Q T2) fun x35 s34 => K89 x25 x35 s34)) else (some ((-2), T2)) := by
      show jb_334_44 Q _ _ _ _ T = _
      unfold jb_334_44
      rw [if_neg (by omega), g2, sp_bd]
    rw [if_pos (by omega), hc, hr]
    rcases g3.2 with ⟨y1, y2⟩ | ⟨_, ⟨y1, y2⟩ | ⟨y1, y, y2, y3, y4⟩⟩
    · exact ⟨-2, S2, T2, by rw [if_neg (by omega), if_neg (fun z => z y2)], by rw [if_neg (fun z => z y1)], f1, f2⟩
    · obtain ⟨q2, rfl⟩ : ∃ r, q2 = r + 1 := ⟨q2 - 1, by omega⟩
      refine ⟨c, S2, T2, by rw [if_neg (by omega), if_pos (by omega)], ?_, f1, f2⟩
      rw [if_pos (by omega), y1, sp_ck (by omega), sp_jn, if_pos (by decide), Int.add_zero]
      show jb_334_44 Q _ _ _ _ T2 = _
      unfold jb_334_44
      rw [if_pos rfl]
    · obtain ⟨⟨z1, z2⟩, z3, ⟨z4, z5, z6⟩, z7, _⟩ := y3
      have b1 := g3.1
      have nb := nxP_b z4
      rw [← z6] at nb
      obtain ⟨v, S3, T3, i1, i2, i3, i4⟩ := ih q q2 (nxP (S2.1 281 11) (S2.1 281 12)) (c + 1) (i + 1) S2 T2 b1 (by omega) (by omega) (by omega) (by omega) (by omega) (by omega) (by omega) (by omega)
      refine ⟨v, S3, T3, ?_, ?_, CFR_tr f1 i3, i4.trans f2⟩
      · rw [if_pos (by omega), sp_ck (by omega), sp_117 (by omega), sp_bd, sp_ck (by omega)]
        exact i1
      · rw [if_pos (by omega), y1, sp_ck (by omega), sp_jn, if_neg (fun z => z rfl), sp_333 (h.2.1 S2 T2 b1).2 (by omega), sp_bd, z7, ← z3, ← z6]
        exact i2
theorem run_mat (h : SIM Q p k w len B R) (hl : len ≤ 160) (hQ : 400 ≤ Q) : ∀ (r q q2 : Nat) (x i : Int) (S T : ev_St), B S T → 0 ≤ i → i ≤ x → x ≤ 161 → (len : Int) + 1 - x ≤ (r : Int) → r < q → r + 1 < q2 → ∃ S2 T2, CFR S S2 ∧ T2.1 621 0 = T.1 621 0 ∧ ((∃ v, jl_182_47 Q y (k + 1) (w + 1) q x i S = some (.inl v, S2) ∧ jl_335_49 Q (p : Int) y q2 (if x ≤ (len : Int) then x else -1) i T = some (v, T2)) ∨ (jl_182_47 Q y (k + 1) (w + 1) q x i S = some (.inr "java/lang/IndexOutOfBoundsException", ev_tick S2) ∧ jl_335_49 Q (p : Int) y q2 (if x ≤ (len : Int) then x else -1) i T = some (0, ev_pI T2 621 0 1))) := fun r => by
  have r221 : ∀ T : ev_St, jm_221 Q 1 T = some (0, ev_pI T 621 0 1) := fun _ => rfl
  have fin : ∀ (q q2 : Nat) (x i : Int) (S T : ev_St), B S T → (len : Int) < x → ∃ S2 T2, CFR S S2 ∧ T2.1 621 0 = T.1 621 0 ∧ ((∃ v, jl_182_47 Q y (k + 1) (w + 1) (q + 1) x i S = some (.inl v, S2) ∧ jl_335_49 Q (p : Int) y (q2 + 1) (if x ≤ (len : Int) then x else -1) i T = some (v, T2)) ∨ (jl_182_47 Q y (k + 1) (w + 1) (q + 1) x i S = some (.inr "java/lang/IndexOutOfBoundsException", ev_tick S2) ∧ jl_335_49 Q (p : Int) y (q2 + 1) (if x ≤ (len : Int) then x else -1) i T = some (0, ev_pI T2 621 0 1))) := fun q q2 x i S T a1 a2 => by
    obtain ⟨c1, c2⟩ := h.2.1 S T a1
    refine ⟨S, T, ⟨fun _ _ _ => rfl, fun _ _ => rfl, fun _ _ _ => rfl, rfl⟩, rfl, Or.inr ⟨?_, ?_⟩⟩
    · show jb_182_47 Q _ _ _ _ _ _ S = _
      unfold jb_182_47
      by_cases z : 160 < i
      · rw [if_pos z]
      · rw [if_neg z, sp_b, show w + 1 - 1 = w from rfl, c1, if_pos a2]
    · rw [if_neg (by omega)]
      show jb_335_49 Q _ _ _ _ _ T = _
      unfold jb_335_49
      rw [if_pos rfl, r221, sp_bd]
  induction r with
  | zero =>
    intro q q2 x i S T a1 a2 a3 a4 a7 a8 a9
    obtain ⟨q, rfl⟩ : ∃ r, q = r + 1 := ⟨q - 1, by omega⟩
    obtain ⟨q2, rfl⟩ : ∃ r, q2 = r + 1 := ⟨q2 - 1, by omega⟩
    exact fin q q2 x i S T a1 (by omega)
  | succ r ih =>
    intro q q2 x i S T a1 a2 a3 a4 a7 a8 a9
    obtain ⟨q, rfl⟩ : ∃ r, q = r + 1 := ⟨q - 1, by omega⟩
    obtain ⟨q2, rfl⟩ : ∃ r, q2 = r + 1 := ⟨q2 - 1, by omega⟩
    by_cases ex : (len : Int) < x
    · exact fin q q2 x i S T a1 ex
    obtain ⟨l79, l80, _⟩ := al_Gt
    obtain ⟨c1, c2⟩ := h.2.1 S T a1
    obtain ⟨vc, vr, S2, T2, g1, g2, g3⟩ := sp_ahead h hl hQ a1 (show 0 ≤ x by omega)
    have f1 : CFR S S2 := frC ef_115 g1 (Or.inl rfl)
    have f2 : T2.1 621 0 = T.1 621 0 := (frR ef_308 g2 (Or.inr rfl)).1 _ _ (by omega) (by omega)
    have hc : jl_182_47 Q y (k + 1) (w + 1) (q + 1) x i S = if 0 ≤ vc then (if i ≠ y then (ev_bd (jm_117 Q S2) fun x26 s25 => ev_ck (i + 1) fun x27 => jl_182_47 Q y (k + 1) (w + 1) q x26 x27 s25) else (some ((Sum.inl vc : Int ⊕ String), S2))) else (some (.inr "java/lang/IndexOutOfBoundsException", ev_tick S2)) := by
      show jb_182_47 Q _ _ _ _ _ _ S = _
      unfold jb_182_47
      rw [if_neg (by omega), sp_b, show w + 1 - 1 = w from rfl, c1, if_neg ex, g1, sp_bd]
    have hr : jl_335_49 Q (p : Int) y (q2 + 1) x i T = if vr = 1 then (if i ≠ y then (ev_ck (i + 1) fun x30 => ev_bd (jm_333 Q T2) fun x32 s31 => jl_335_49 Q (p : Int) y q2 x32 x30 s31) else (ev_ck (1000 * T2.1 679 0) fun x34 => ev_ck (x34 + T2.1 680 0) fun x36 => some (x36, T2))) else some (0, ev_pI T2 621 0 1) := by
      show jb_335_49 Q _ _ _ _ _ T = _
      unfold jb_335_49
      rw [if_neg (by omega), g2, sp_bd, r221, sp_bd, show Int.toNat 0 = 0 from rfl, sp_if (show (0 : Int) ≤ 0 ∧ (0 : Int) < (ev_aln 679 : Int) by rw [l79]; omega), sp_b]
      simp only [sp_if (show (0 : Int) ≤ 0 ∧ (0 : Int) < (ev_aln 680 : Int) by rw [l80]; omega), sp_b]
    rw [if_pos (show x ≤ (len : Int) by omega), hc, hr]
    rcases g3.2 with ⟨y1, y2⟩ | ⟨_, ⟨y1, y2⟩ | ⟨y1, u, y2, y3, y4⟩⟩
    · exact ⟨S2, T2, f1, f2, Or.inr ⟨by rw [if_neg (by omega)], by rw [if_neg (by omega)]⟩⟩
    · exact ⟨S2, T2, f1, f2, Or.inr ⟨by rw [if_neg (by omega)], by rw [if_neg (by omega)]⟩⟩
    · obtain ⟨⟨z1, z2⟩, z3, ⟨z4, z5, z6⟩, z7, _⟩ := y3
      have b1 := g3.1
      have nb := nxP_b z4
      rw [← z6] at nb
      rw [if_pos (show 0 ≤ vc by omega), if_pos y1]
      by_cases e : i ≠ y
      · obtain ⟨S3, T3, i1, i2, i3⟩ := ih q q2 (nxP (S2.1 281 11) (S2.1 281 12)) (i + 1) S2 T2 b1 (by omega) (by omega) (by omega) (by omega) (by omega) (by omega)
        rw [if_pos e, if_pos e, sp_117 (by omega), sp_bd, sp_ck (by omega), sp_ck (by omega), sp_333 (h.2.1 S2 T2 b1).2 (by omega), sp_bd, z7, ← z3, ← z6]
        exact ⟨S3, T3, CFR_tr f1 i1, i2.trans f2, i3⟩
      · rw [if_neg e, if_neg e]
        exact ⟨S2, T2, f1, f2, Or.inl ⟨vc, rfl, by rw [z7, sp_ck (by omega), ← z3, sp_ck (by omega), y2]⟩⟩
end OPYN
