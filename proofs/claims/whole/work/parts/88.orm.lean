/-! STREAMS: what the reference tells -/
section ORM
variable {Q p s n len k m o : Nat} {S U V W : ev_St} {P : Nat → T3} {X : Nat → SNs} {X1 A lv : SNs} {c : CPs} {out ls : LFs} {an ms : Bool} {b : Option (Nat × CPs)}
def bdO (b : Option (Nat × CPs)) : Prop := ∀ e c, b = some (e, c) → e ≤ 80 ∧ 0 ≤ c 0 ∧ c 0 ≤ 80
theorem bvO_n (h : bdO b) : bvO b = -1 ↔ b = none := by
  cases b with
  | none => exact ⟨fun _ => rfl, fun _ => rfl⟩
  | some x =>
    have := h x.1 x.2 rfl
    refine ⟨fun z => ?_, fun z => by cases z⟩
    have z' : 1000 * x.2 0 + (x.1 : Int) = -1 := z
    omega
theorem rc_run (hS : RSq7 p s n len P X S) (hQ : 1000 ≤ Q) (han : an = true ↔ S.1 719 s ≠ 0) : ∀ (r k : Nat) (rs : LFs) (b : Option (Nat × CPs)) (ms : Bool) (U : ev_St) (q : Nat), k + r = len → r + 2 ≤ q → FRq7 S U → (∀ x, x ∈ rs → x.1 < n) → bd0 rs → rs.length ≤ 420 → CMl rs U → (ms = true ↔ (bvO b = -1 ∧ (k = 0 ∨ S.1 719 s = 0))) → bdO b → stb P n (fun _ => true) k rs ms b = stm P n X (fun _ => true) an k → ∃ V, jl_318_15 Q (s : Int) q (p : Int) (bvO b) (rs.length : Int) (k : Int) U = some (bvO (stm P n X (fun _ => true) an len).2, V) ∧ FRq7 S V ∧ V.1 621 68 = ((stm P n X (fun _ => true) an len).1.length : Int) ∧ (∀ (j q : Nat) (d : CPs), (stm P n X (fun _ => true) an len).1[j]? = some (q, d) → V.1 674 j = (q : Int)) ∧ bdO (stm P n X (fun _ => true) an len).2 := fun r => by
  have l721 := al_318.2.2.2.2.2.2.2.2.2.2.2.1
  induction r with
  | zero =>
    intro k rs b ms U q hk hq hF hrs hb0 hl hC hms hbd he
    obtain ⟨q, rfl⟩ : ∃ r, q = r + 2 := ⟨q - 2, by omega⟩
    obtain ⟨V, a1, a2, a3, a4, a5, a6, a7⟩ := rc_place (Q := Q) (K15 := jl_318_15 Q (s : Int) (q + 1)) hS hQ (by omega) hF hrs hb0 hl hC hms
    obtain ⟨s1, ⟨s2, s3, s4, s5, s6⟩, s7, ⟨s8, s9, s10⟩, _⟩ := hS
    have ek : k = len := by omega
    rw [he, ek] at a4 a5 a7 a1
    refine ⟨V, ?_, a2, a4, a5, fun e c h => ?_⟩
    · show jb_318_15 _ _ _ _ _ _ _ _ = _
      rw [ek]
      refine a1.trans ?_
      rw [sp_ck (by omega)]
      show jb_318_15 _ _ _ _ _ _ _ _ = _
      unfold jb_318_15
      rw [sp_if (by rw [l721]; omega), sp_b, Int.toNat_natCast, a2.1 721 s (by omega) (by omega) (by omega), s9, if_pos (by omega)]
    · rcases a7 e c h with y | y
      · exact hbd e c y
      · exact ⟨by omega, y.2⟩
  | succ r ih =>
    intro k rs b ms U q hk hq hF hrs hb0 hl hC hms hbd he
    obtain ⟨q, rfl⟩ : ∃ r, q = r + 1 := ⟨q - 1, by omega⟩
    obtain ⟨V, a1, a2, a3, a4, a5, a6, a7⟩ := rc_place (Q := Q) (K15 := jl_318_15 Q (s : Int) q) hS hQ (by omega) hF hrs hb0 hl hC hms
    have hS0 := hS
    obtain ⟨s1, ⟨s2, s3, s4, s5, s6⟩, s7, ⟨s8, s9, s10⟩, _⟩ := hS
    rw [he] at a1 a3 a6 a7
    obtain ⟨m1, m2⟩ := stm_m (X := X) (lv := fun _ => true) (an := an) s2 s3 k
    have hbd' : bdO (stm P n X (fun _ => true) an k).2 := fun e c h => by
      rcases a7 e c h with y | y
      · exact hbd e c y
      · exact ⟨by omega, y.2⟩
    have ln := suc_len (X1 := X k) (stm P n X (fun _ => true) an k).1
    obtain ⟨V2, b1, b2, b3, b4, b5⟩ := ih (k + 1) (suc (X k) (stm P n X (fun _ => true) an k).1) (stm P n X (fun _ => true) an k).2 (mst an (stm P n X (fun _ => true) an k).2) V q (by omega) (by omega) a2 (suc_in s2 _ m1) (suc_0 _ a6) (by omega) a3 (by
      rw [bvO_n hbd']
      unfold mst
      by_cases z : an = true
      · have := han.mp z
        rw [if_pos z]
        exact ⟨fun y => Bool.noConfusion y, fun y => absurd (y.2.resolve_left (by omega)) this⟩
      · have z2 : S.1 719 s = 0 := Classical.byContradiction fun y => z (han.mpr y)
        rw [if_neg z, Option.isNone_iff_eq_none]
        exact ⟨fun y => ⟨y, Or.inr z2⟩, fun y => y.1⟩) hbd' rfl
    refine ⟨V2, ?_, b2, b3, b4, b5⟩
    show jb_318_15 _ _ _ _ _ _ _ _ = _
    refine a1.trans ?_
    rw [sp_ck (by omega), show (k : Int) + 1 = ((k + 1 : Nat) : Int) from by omega]
    exact b1
/-- the threads of a stream's text -/
theorem sp_318 (hS : RSq7 p s n len P X S) (hQ : 1000 ≤ Q) (han : an = true ↔ S.1 719 s ≠ 0) : ∃ V, jm_318 Q (s : Int) S = some (bvO (stm P n X (fun _ => true) an len).2, V) ∧ FRq7 S V ∧ V.1 621 68 = ((stm P n X (fun _ => true) an len).1.length : Int) ∧ (∀ (j q : Nat) (d : CPs), (stm P n X (fun _ => true) an len).1[j]? = some (q, d) → V.1 674 j = (q : Int)) ∧ bdO (stm P n X (fun _ => true) an len).2 := by
  have l718 := al_318.2.2.2.2.2.2.2.2.1
  obtain ⟨V, a1, a2⟩ := rc_run (Q := Q) (an := an) hS hQ han len 0 [] none true S Q (by omega) (by
    have := hS.2.2.2.1.2.2
    omega) FRq7_r (fun x hx => by cases hx) (fun x hx => by cases hx) (Nat.zero_le _) (fun j q d h => by cases h) ⟨fun _ => ⟨rfl, Or.inl rfl⟩, fun _ => rfl⟩ (fun e c h => by cases h) rfl
  refine ⟨V, ?_, a2⟩
  obtain ⟨s1, ⟨s2, s3, s4, s5, s6⟩, s7, ⟨s8, s9, s10⟩, _⟩ := hS
  unfold jm_318
  rw [sp_if (by rw [l718]; omega), sp_b, Int.toNat_natCast, s8]
  exact a1
/-- is there a thread that leads on -/
theorem rt_21 {T : Nat} {x2 : Int} (hs : s < 4) (hT : T ≤ 210) (h68 : V.1 621 68 = (T : Int)) (h4 : ∀ j, j < T → 0 ≤ V.1 674 j ∧ V.1 674 j < 210) : ∀ (r j : Nat) (mo : Int) (q : Nat), j + r = T → r < q → (mo = 0 ∨ mo = 1) → ∃ v, jl_319_21 Q (s : Int) q x2 mo (j : Int) V = some (v, V) ∧ ((v = x2 ∧ (V.1 720 s ≠ 0 ∨ (mo = 0 ∧ ∀ i, j ≤ i → i < T → V.1 673 (V.1 674 i).toNat = 0))) ∨ (v = -5 ∧ V.1 720 s = 0 ∧ (mo = 1 ∨ ∃ i, j ≤ i ∧ i < T ∧ V.1 673 (V.1 674 i).toNat ≠ 0))) := fun r => by
  have l673 := al_en.2.2.2.2.1
  obtain ⟨l2, l3, l33, l34, l74, l75, l76, l77, l718, l719, l720, l721, l722, l69⟩ := al_318
  induction r with
  | zero =>
    intro j mo q hj hq hm
    obtain ⟨q, rfl⟩ : ∃ r, q = r + 1 := ⟨q - 1, by omega⟩
    have head : jl_319_21 Q (s : Int) (q + 1) x2 mo (j : Int) V = (if mo = 0 then (some (x2, V)) else (if V.1 720 s ≠ 0 then (some (x2, V)) else (some ((-5), V)))) := by
      show jb_319_21 _ _ _ _ _ _ _ = _
      unfold jb_319_21
      rw [sp_b, h68, if_pos (by omega)]
      by_cases z : mo = 0
      · rw [if_pos z, if_pos z]
      · rw [if_neg z, if_neg z, sp_if (by rw [l720]; omega), sp_b, Int.toNat_natCast]
    rw [head]
    by_cases z : mo = 0
    · rw [if_pos z]
      exact ⟨x2, rfl, Or.inl ⟨rfl, Or.inr ⟨z, fun i h1 h2 => by omega⟩⟩⟩
    · rw [if_neg z]
      by_cases w : V.1 720 s ≠ 0
      · rw [if_pos w]
        exact ⟨x2, rfl, Or.inl ⟨rfl, Or.inl w⟩⟩
      · rw [if_neg w]
        exact ⟨-5, rfl, Or.inr ⟨rfl, Classical.byContradiction w, Or.inl (by omega)⟩⟩
  | succ r ih =>
    intro j mo q hj hq hm
    obtain ⟨q, rfl⟩ : ∃ r, q = r + 1 := ⟨q - 1, by omega⟩
    obtain ⟨t1, t2⟩ := h4 j (by omega)
    have head : jl_319_21 Q (s : Int) (q + 1) x2 mo (j : Int) V = jl_319_21 Q (s : Int) q x2 (if mo = 0 ∧ V.1 673 (V.1 674 j).toNat = 0 then 0 else 1) ((j + 1 : Nat) : Int) V := by
      show jb_319_21 _ _ _ _ _ _ _ = _
      unfold jb_319_21
      rw [sp_b, h68, if_neg (by omega), sp_jn, sp_jn]
      by_cases z : mo = 0
      · rw [if_neg (fun y => y z), sp_if (by rw [l74]; omega), sp_b, Int.toNat_natCast, sp_if (by rw [l673]; omega), sp_b]
        by_cases w : V.1 673 (V.1 674 j).toNat = 0
        · rw [if_pos w, if_pos ⟨z, w⟩]
          try dsimp only
          rw [sp_ck (by omega), show (j : Int) + 1 = ((j + 1 : Nat) : Int) from by omega]
        · rw [if_neg w, if_neg (fun y => w y.2)]
          try dsimp only
          rw [sp_ck (by omega), show (j : Int) + 1 = ((j + 1 : Nat) : Int) from by omega]
      · rw [if_pos z, if_neg (fun y => z y.1)]
        try dsimp only
        rw [sp_ck (by omega), show (j : Int) + 1 = ((j + 1 : Nat) : Int) from by omega]
    rw [head]
    by_cases w : mo = 0 ∧ V.1 673 (V.1 674 j).toNat = 0
    · rw [if_pos w]
      obtain ⟨v, a1, a2⟩ := ih (j + 1) 0 q (by omega) (by omega) (Or.inl rfl)
      refine ⟨v, a1, ?_⟩
      rcases a2 with ⟨b1, b2 | ⟨_, b2⟩⟩ | ⟨b1, b2, b3 | ⟨i, b3, b4, b5⟩⟩
      · exact Or.inl ⟨b1, Or.inl b2⟩
      · refine Or.inl ⟨b1, Or.inr ⟨w.1, fun i h1 h2 => ?_⟩⟩
        by_cases e : i = j
        · rw [e]
          exact w.2
        · exact b2 i (by omega) h2
      · exact absurd b3 (by decide)
      · exact Or.inr ⟨b1, b2, Or.inr ⟨i, by omega, b4, b5⟩⟩
    · rw [if_neg w]
      obtain ⟨v, a1, a2⟩ := ih (j + 1) 1 q (by omega) (by omega) (Or.inr rfl)
      refine ⟨v, a1, ?_⟩
      rcases a2 with ⟨b1, b2 | ⟨b2, _⟩⟩ | ⟨b1, b2, _⟩
      · exact Or.inl ⟨b1, Or.inl b2⟩
      · exact absurd b2 (by decide)
      · refine Or.inr ⟨b1, b2, ?_⟩
        by_cases z : mo = 0
        · exact Or.inr ⟨j, Nat.le_refl j, by omega, fun y => w ⟨z, y⟩⟩
        · exact Or.inl (hm.resolve_left z)
/-- what the reference tells of a stream -/
theorem sp_319 (hS : RSq7 p s n len P X S) (hQ : 1000 ≤ Q) (han : an = true ↔ S.1 719 s ≠ 0) (hB : ∀ i, i < 210 → enB p i S) (h5 : S.1 665 p ≤ 208) (hc : ∀ a : Nat, a < 210 → (a : Int) ≤ S.1 665 p → enQ (fun j => lv j = true) p a S → lv a = true) (hm : ∀ G : Nat → Prop, (∀ a : Nat, a < 210 → (a : Int) ≤ S.1 665 p → enQ G p a S → G a) → ∀ j, j < n → lv j = true → G j) : ∃ V, jm_319 Q (s : Int) S = some (if S.1 720 s = 0 ∧ flt lv (stm P n X (fun _ => true) an len).1 ≠ [] then -5 else bvO (stm P n X (fun _ => true) an len).2, V) ∧ (∀ c i, ¬ (c = 621 ∧ i = 68) → ¬ (669 ≤ c ∧ c ≤ 670) → ¬ (673 ≤ c ∧ c ≤ 677) → V.1 c i = S.1 c i) ∧ V.2 = S.2 := by
  have l718 := al_318.2.2.2.2.2.2.2.2.1
  obtain ⟨U, a1, a2, a3, a4, a5⟩ := sp_318 (Q := Q) (an := an) hS hQ han
  obtain ⟨s1, ⟨s2, s3, s4, s5, s6⟩, s7, ⟨s8, s9, s10⟩, _⟩ := hS
  have tr : ∀ (G : Nat → Prop) i, enQ G p i U ↔ enQ G p i S := fun G i => enQ_c (fun c hc => a2.1 c _ (by omega) (by omega) (by omega)) (by rw [a2.2])
  have r5 : U.1 665 p = S.1 665 p := a2.1 _ _ (by omega) (by omega) (by omega)
  obtain ⟨V, b1, b2, b3, b4⟩ := sp_316 (Q := Q) (S := U) s5 (fun i hi => by
    unfold enB
    rw [a2.1 662 _ (by omega) (by omega) (by omega), a2.1 663 _ (by omega) (by omega) (by omega), a2.1 664 _ (by omega) (by omega) (by omega)]
    exact hB i hi) (by rw [r5]; exact h5) (by omega)
  have live : ∀ j, j < n → (enN V j ↔ lv j = true) := fun j hj => by
    refine ⟨fun z => b3 (fun j => lv j = true) (fun a ha h6 hq => hc a ha (by rw [← r5]; exact h6) ((tr _ a).mp hq)) j (by omega) z, fun z => hm (enN V) (fun a ha h6 hq => b4 a ha (by rw [r5]; exact h6) ((tr _ a).mpr hq)) j hj z⟩
  obtain ⟨m1, m2⟩ := stm_m (X := X) (lv := fun _ => true) (an := an) s2 s3 len
  generalize stm P n X (fun _ => true) an len = R at a1 a3 a4 a5 m1 m2 ⊢
  have at4 : ∀ j, j < R.1.length → ∃ x, R.1[j]? = some x ∧ x ∈ R.1 ∧ V.1 674 j = (x.1 : Int) := fun j hj => by
    obtain ⟨x, hx⟩ : ∃ x, R.1[j]? = some x := ⟨R.1[j]'hj, List.getElem?_eq_getElem hj⟩
    refine ⟨x, hx, List.mem_of_getElem? hx, ?_⟩
    rw [b2.1 674 j (by decide)]
    exact a4 j x.1 x.2 hx
  obtain ⟨v, c1, c2⟩ := rt_21 (Q := Q) (s := s) (V := V) (T := R.1.length) (x2 := bvO R.2) s6 (by omega) (by rw [b2.1 621 68 (by decide)]; exact a3) (fun j hj => by
    obtain ⟨x, _, x2, x3⟩ := at4 j hj
    have := (m1 x x2).1
    rw [x3]
    omega) R.1.length 0 0 Q (by omega) (by omega) (Or.inl rfl)
  have e720 : V.1 720 s = S.1 720 s := (b2.1 _ _ (by decide)).trans (a2.1 _ _ (by omega) (by omega) (by omega))
  have mem : ∀ l : LFs, flt lv l ≠ [] ↔ ∃ x, x ∈ l ∧ lv x.1 = true := fun l => by
    induction l with
    | nil => exact ⟨fun h => absurd rfl h, fun ⟨x, h, _⟩ => by cases h⟩
    | cons y l il =>
      by_cases z : lv y.1 = true
      · have e : flt lv (y :: l) = y :: flt lv l := if_pos z
        rw [e]
        exact ⟨fun _ => ⟨y, List.mem_cons_self .., z⟩, fun _ h => by cases h⟩
      · have e : flt lv (y :: l) = flt lv l := if_neg z
        rw [e, il]
        refine ⟨fun ⟨x, h1, h2⟩ => ⟨x, List.mem_cons_of_mem _ h1, h2⟩, fun ⟨x, h1, h2⟩ => ?_⟩
        rcases List.mem_cons.mp h1 with w | w
        · rw [w] at h2
          exact absurd h2 z
        · exact ⟨x, w, h2⟩
  refine ⟨V, ?_, fun c i h1 h2 h3 => (b2.1 c i (by omega)).trans (a2.1 c i h1 h2 (by omega)), b2.2.trans a2.2⟩
  have run : jm_319 Q (s : Int) S = some (v, V) := by
    unfold jm_319
    rw [a1, sp_bd, sp_if (by rw [l718]; omega), sp_b, Int.toNat_natCast, a2.1 718 s (by omega) (by omega) (by omega), s8, b1, sp_bd]
    exact c1
  rw [run]
  have ev : v = if S.1 720 s = 0 ∧ flt lv R.1 ≠ [] then -5 else bvO R.2 := by
    rcases c2 with ⟨y1, y2⟩ | ⟨y1, y2, y3⟩
    · rw [if_neg]
      · exact y1
      · rintro ⟨z1, z2⟩
        rcases y2 with w | ⟨_, w⟩
        · rw [e720] at w
          exact w z1
        · obtain ⟨x, h1, h2⟩ := (mem _).mp z2
          obtain ⟨j, hj⟩ := List.getElem?_of_mem h1
          have jl : j < R.1.length := by
            apply Classical.byContradiction
            intro q
            rw [List.getElem?_eq_none (by omega)] at hj
            cases hj
          have w' := w j (Nat.zero_le j) jl
          rw [b2.1 674 j (by decide), a4 j x.1 x.2 hj, Int.toNat_natCast] at w'
          exact (live x.1 (m1 x h1).1).mpr h2 w'
    · rw [e720] at y2
      rw [if_pos]
      · exact y1
      · refine ⟨y2, (mem _).mpr ?_⟩
        rcases y3 with w | ⟨i, _, i2, i3⟩
        · exact absurd w (by decide)
        · obtain ⟨x, _, x2, x3⟩ := at4 i i2
          rw [x3, Int.toNat_natCast] at i3
          exact ⟨x, x2, (live x.1 (m1 x x2).1).mp i3⟩
  rw [ev]
end ORM
