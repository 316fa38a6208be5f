/-! STREAMS: the reference's threads, place by place -/
section ORK
variable {Q p s n len k m o : Nat} {S U V W : ev_St} {P : Nat → T3} {X : Nat → SNs} {A : SNs} {c : CPs} {out ls : LFs} {an ms : Bool} {K15 : Int → Int → Int → Int → ev_St → Option (Int × ev_St)}
def tl318 (Q : Nat) (a0 x2 x3 x5 : Int) (K15 : Int → Int → Int → Int → ev_St → Option ((Int) × ev_St)) (s37 : ev_St) : Option ((Int) × ev_St) := (ev_jn (fun  (s45 : ev_St) => ev_b (s45.1 621 68) fun x46 => jl_318_130 Q a0 x2 x5 K15 Q x3 0 x46 0 s45) fun K118 => if x3 ≠ (-1) then (K118  s37) else (ev_jn (fun  (s111 : ev_St) => ev_bd (jm_317 Q x2 0 x5 s111) fun _ s112 => K118  s112) fun K110 => if x5 = 0 then (K110  s37) else (ev_if ((0 : Int) ≤ a0 ∧ a0 < (ev_aln 719 : Int)) (ev_b (s37.1 719 (Int.toNat a0)) fun x114 => if x114 ≠ 0 then (K118  s37) else (K110  s37)))))
theorem jb318_59 {a0 x2 x3 x4 x5 x28 : Int} {K59 : Int → ev_St → Option (Int × ev_St)} : jb_318_59 Q a0 x2 x3 x4 x5 K15 K59 x28 U = if x4 ≤ x28 then tl318 Q a0 x2 x3 x5 K15 U else (ev_if ((0 : Int) ≤ x28 ∧ x28 < (ev_aln 676 : Int)) (ev_b (U.1 676 (Int.toNat x28)) fun x116 => ev_if ((0 : Int) ≤ x28 ∧ x28 < (ev_aln 677 : Int)) (ev_b (U.1 677 (Int.toNat x28)) fun x117 => ev_bd (jm_317 Q x2 x116 x117 U) fun _ s118 => ev_ck (x28 + 1) fun x119 => K59 x119 s118))) := rfl
theorem rc_29 {x3 x4 x5 : Int} : ∀ (t q i : Nat) (U : ev_St), t < q → i + t = 210 → (∀ j, j < i → U.1 669 j = 0) → FRq7 S U → ∃ V, jl_318_29 Q (s : Int) (p : Int) x3 x4 x5 K15 q (i : Int) U = jl_318_59 Q (s : Int) (p : Int) x3 x4 x5 K15 Q 0 V ∧ FRq7 S V ∧ (∀ j, j < 210 → V.1 669 j = 0) ∧ V.1 621 68 = 0 ∧ ∀ c i, c = 676 ∨ c = 677 → V.1 c i = U.1 c i := fun t => by
  have l69 := al_318.2.2.2.2.2.2.2.2.2.2.2.2.2
  induction t with
  | zero =>
    intro q i U hq hi h0 hF
    obtain ⟨q, rfl⟩ : ∃ r, q = r + 1 := ⟨q - 1, by omega⟩
    refine ⟨ev_pI U 621 68 0, ?_, FRq7_t hF (FRq7_w (Or.inl ⟨rfl, rfl⟩)), fun j hj => ?_, rd_eq, fun c i hc => rd_nk (by omega)⟩
    · show jb_318_29 _ _ _ _ _ _ _ _ _ _ = _
      unfold jb_318_29
      rw [if_pos (by omega), sp_b]
    · rw [rd_nk (by decide)]
      exact h0 j (by omega)
  | succ t ih =>
    intro q i U hq hi h0 hF
    obtain ⟨q, rfl⟩ : ∃ r, q = r + 1 := ⟨q - 1, by omega⟩
    obtain ⟨V, a1, a2, a3, a4, a5⟩ := ih q (i + 1) (ev_pI U 669 i 0) (by omega) (by omega) (fun j hj => by
      by_cases e : j = i
      · rw [e, ev_pI_eq]
      · rw [ev_pI_ne2 e]
        exact h0 j (by omega)) (FRq7_t hF (FRq7_w (Or.inr (Or.inl ⟨by omega, by omega⟩))))
    refine ⟨V, ?_, a2, a3, a4, fun c i hc => (a5 c i hc).trans (rd_nk (by omega))⟩
    show jb_318_29 _ _ _ _ _ _ _ _ _ _ = _
    unfold jb_318_29
    rw [if_neg (by omega), sp_if (by rw [l69]; omega), sp_b, Int.toNat_natCast, sp_ck (by omega), show (i : Int) + 1 = ((i + 1 : Nat) : Int) from by omega, a1]
theorem rc_59 {E : Int → Bool} {x3 x5 : Int} (hS : RSq7 p s n len P X S) (hQ : 1000 ≤ Q) : ∀ (rest : LFs) (A : SNs) (out : LFs) (U : ev_St) (q j : Nat), (∀ x, x ∈ rest → x.1 < n) → (∀ (i a : Nat) (d : CPs), rest[i]? = some (a, d) → U.1 676 (j + i) = (a : Int) ∧ U.1 677 (j + i) = d 0) → FRq7 S U → RTh n A out U → out.length + cnf A n ≤ 420 → j + rest.length ≤ 420 → rest.length < q → ∃ V, jl_318_59 Q (s : Int) (p : Int) x3 ((j + rest.length : Nat) : Int) x5 K15 q (j : Int) U = tl318 Q (s : Int) (p : Int) x3 x5 K15 V ∧ FRq7 S V ∧ RTh n (dfsL P E k n rest A).2 (out ++ (dfsL P E k n rest A).1) V := fun rest => by
  obtain ⟨l2, l3, l33, l34, l74, l75, l76, l77, l718, l719, l720, l721, l722, l69⟩ := al_318
  obtain ⟨s1, ⟨s2, s3, s4, s5, s6⟩, s7, _⟩ := hS
  induction rest with
  | nil =>
    intro A out U q j hm hr hF hR ho hj hq
    obtain ⟨q, rfl⟩ : ∃ r, q = r + 1 := ⟨q - 1, by omega⟩
    refine ⟨U, ?_, hF, ?_⟩
    · show jb_318_59 _ _ _ _ _ _ _ _ _ _ = _
      rw [jb318_59, if_pos (by show ((j + 0 : Nat) : Int) ≤ (j : Int); omega)]
    · show RTh n A (out ++ []) U
      rw [List.append_nil]
      exact hR
  | cons x tl ih =>
    intro A out U q j hm hr hF hR ho hj hq
    obtain ⟨a, d⟩ := x
    obtain ⟨q, rfl⟩ : ∃ r, q = r + 1 := ⟨q - 1, by omega⟩
    rw [List.length_cons] at hj hq
    have m1 := hm (a, d) (List.mem_cons_self ..)
    obtain ⟨r1, r2⟩ := hr 0 a d rfl
    rw [Nat.add_zero] at r1 r2
    obtain ⟨V1, v1, v2, v3⟩ := sp_317 (Q := Q) (E := E) (k := k) (S := U) (c := d) (fr := d 0) s5 s2 s4 s7 (fun i hi => by
      obtain ⟨y1, y2, y3⟩ := s1 i hi
      exact ⟨(hF.1 _ _ (by omega) (by omega) (by omega)).trans y1, (hF.1 _ _ (by omega) (by omega) (by omega)).trans y2, (hF.1 _ _ (by omega) (by omega) (by omega)).trans y3⟩) m1 rfl FRa_r hR ho hQ
    obtain ⟨d1, _⟩ := dfs_cnf (E := E) (k := k) s2 n a d A m1
    obtain ⟨V, w1, w2, w3⟩ := ih (dfs P E k n a d A).2 (out ++ (dfs P E k n a d A).1) V1 q (j + 1) (fun x hx => hm x (List.mem_cons_of_mem _ hx)) (fun i b e hi => by
      rw [v2.1 676 _ (by omega) (by omega) (by omega), v2.1 677 _ (by omega) (by omega) (by omega), show j + 1 + i = j + (i + 1) from by omega]
      exact hr (i + 1) b e hi) (FRq7_t hF (FRq7_a v2)) v3 (by rw [List.length_append]; omega) (by omega) (by omega)
    refine ⟨V, ?_, w2, ?_⟩
    · have hl : ((j + (((a, d) :: tl : LFs)).length : Nat) : Int) = ((j + 1 + tl.length : Nat) : Int) := by
        rw [List.length_cons]
        omega
      rw [hl]
      show jb_318_59 _ _ _ _ _ _ _ _ _ _ = _
      rw [jb318_59, if_neg (by omega), sp_if (by rw [l76]; omega), sp_b, sp_if (by rw [l77]; omega), sp_b, Int.toNat_natCast, r1, r2, v1, sp_bd, sp_ck (by omega), show (j : Int) + 1 = ((j + 1 : Nat) : Int) from by omega, w1]
    · rw [dfsL_c]
      dsimp only
      rw [List.append_assoc] at w3
      exact w3
/-- the start, where it is wanted; then all threads in their order -/
theorem rc_tail {E : Int → Bool} {x3 : Int} {rs : LFs} (hS : RSq7 p s n len P X S) (hQ : 1000 ≤ Q) (hk : k ≤ len) (hF : FRq7 S U) (hrs : ∀ x, x ∈ rs → x.1 < n) (hR : RTh n (dfsL P E k n rs (fun _ => false)).2 (dfsL P E k n rs (fun _ => false)).1 U) (hms : ms = true ↔ (x3 = -1 ∧ (k = 0 ∨ S.1 719 s = 0))) : ∃ V, tl318 Q (s : Int) (p : Int) x3 (k : Int) K15 U = jl_318_130 Q (s : Int) (p : Int) (k : Int) K15 Q x3 0 ((dfsL P E k n (rts k rs ms) (fun _ => false)).1.length : Int) 0 V ∧ FRq7 S V ∧ RTh n (dfsL P E k n (rts k rs ms) (fun _ => false)).2 (dfsL P E k n (rts k rs ms) (fun _ => false)).1 V := by
  obtain ⟨l2, l3, l33, l34, l74, l75, l76, l77, l718, l719, l720, l721, l722, l69⟩ := al_318
  obtain ⟨s1, ⟨s2, s3, s4, s5, s6⟩, s7, ⟨s8, s9, s10⟩, _⟩ := hS
  have e719 : U.1 719 s = S.1 719 s := hF.1 _ _ (by omega) (by omega) (by omega)
  obtain ⟨d1, _⟩ := dfsL_cnf (E := E) (k := k) s2 rs (fun _ => false) hrs
  have cl := cnf_le (A := fun _ => false) n
  by_cases z : ms = true
  · obtain ⟨z1, z2⟩ := hms.mp z
    obtain ⟨V, v1, v2, v3⟩ := sp_317 (Q := Q) (E := E) (k := k) (S := U) (pc := 0) (c := c0 k) (fr := (k : Int)) s5 s2 s4 s7 (fun i hi => by
      obtain ⟨y1, y2, y3⟩ := s1 i hi
      exact ⟨(hF.1 _ _ (by omega) (by omega) (by omega)).trans y1, (hF.1 _ _ (by omega) (by omega) (by omega)).trans y2, (hF.1 _ _ (by omega) (by omega) (by omega)).trans y3⟩) s3 rfl FRa_r hR (by omega) hQ
    have eD : dfsL P E k n (rts k rs ms) (fun _ => false) = ((dfsL P E k n rs (fun _ => false)).1 ++ (dfs P E k n 0 (c0 k) (dfsL P E k n rs (fun _ => false)).2).1, (dfs P E k n 0 (c0 k) (dfsL P E k n rs (fun _ => false)).2).2) := by
      unfold rts
      rw [if_pos z, dfsL_app, dfsL_c]
      show (_ ++ (_ ++ []), _) = _
      rw [List.append_nil]
      rfl
    rw [eD]
    refine ⟨V, ?_, FRq7_t hF (FRq7_a v2), v3⟩
    have e68 := v3.2.1
    have v1' : jm_317 Q (p : Int) 0 (k : Int) U = some ((), V) := v1
    unfold tl318
    rw [sp_jn, if_neg (fun y => y z1), sp_jn]
    rcases z2 with y | y
    · rw [if_pos (by omega)]
      try dsimp only
      rw [v1', sp_bd]
      try dsimp only
      rw [sp_b, e68]
    · rw [← e719] at y
      by_cases k0 : (k : Int) = 0
      · rw [if_pos k0]
        try dsimp only
        rw [v1', sp_bd]
        try dsimp only
        rw [sp_b, e68]
      · rw [if_neg k0, sp_if (by rw [l719]; omega), sp_b, Int.toNat_natCast, if_neg (fun w => w y)]
        try dsimp only
        rw [v1', sp_bd]
        try dsimp only
        rw [sp_b, e68]
  · have eD : rts k rs ms = rs := if_neg z
    rw [eD]
    refine ⟨U, ?_, hF, hR⟩
    unfold tl318
    rw [sp_jn]
    by_cases z1 : x3 = -1
    · have z2 : ¬ (k = 0 ∨ S.1 719 s = 0) := fun y => z (hms.mpr ⟨z1, y⟩)
      rw [if_neg (fun y => y z1), sp_jn, if_neg (by omega), sp_if (by rw [l719]; omega), sp_b, Int.toNat_natCast, e719, if_pos (fun y => z2 (Or.inr y))]
      try dsimp only
      rw [sp_b, hR.2.1]
    · rw [if_pos z1]
      try dsimp only
      rw [sp_b, hR.2.1]
end ORK
