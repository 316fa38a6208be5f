/-! STREAMS: the reference's threads of a whole text -/
section ORL
variable {Q p s n len k m o : Nat} {S U V W : ev_St} {P : Nat → T3} {X : Nat → SNs} {X1 A : SNs} {c : CPs} {out ls : LFs} {an ms : Bool} {K15 : Int → Int → Int → Int → ev_St → Option (Int × ev_St)} {b : Option (Nat × CPs)}
/-- the best so far, as a number -/
def bvO (b : Option (Nat × CPs)) : Int := match b with
  | some x => 1000 * x.2 0 + (x.1 : Int)
  | none => -1
def bd0 (l : LFs) : Prop := ∀ x, x ∈ l → 0 ≤ x.2 0 ∧ x.2 0 ≤ 80
theorem dfsL_0 {E : Int → Bool} (hw : wfP P n) : ∀ (rs : LFs) (A : SNs), (∀ x, x ∈ rs → x.1 < n) → bd0 rs → bd0 (dfsL P E k n rs A).1 := fun rs => by
  induction rs with
  | nil => exact fun A _ _ x hx => by cases hx
  | cons y rs ih =>
    intro A hr hb x hx
    rw [dfsL_c] at hx
    rcases List.mem_append.mp hx with z | z
    · have d := (dfs_cnf (E := E) (k := k) hw n y.1 y.2 A (hr y (List.mem_cons_self ..))).2 x.1 x.2 z
      rw [d.2.2 0 (by decide)]
      exact hb y (List.mem_cons_self ..)
    · exact ih _ (fun w hw => hr w (List.mem_cons_of_mem _ hw)) (fun w hw => hb w (List.mem_cons_of_mem _ hw)) x z
theorem suc_0 : ∀ l : LFs, bd0 l → bd0 (suc X1 l) := fun l => by
  induction l with
  | nil => exact fun _ x hx => by cases hx
  | cons a l il =>
    intro h x hx
    have i := il (fun w hw => h w (List.mem_cons_of_mem _ hw))
    unfold suc at hx
    by_cases q : X1 a.1 = true
    · rw [if_pos q] at hx
      rcases List.mem_cons.mp hx with z | z
      · rw [z]
        exact h a (List.mem_cons_self ..)
      · exact i x z
    · rw [if_neg q] at hx
      exact i x hx
theorem cut_pre : ∀ (l : LFs) (j : Nat) (x : Nat × CPs), (cut P l).1[j]? = some x → l[j]? = some x := fun l => by
  induction l with
  | nil => exact fun j x h => h
  | cons a l il =>
    intro j x h
    by_cases z : (P a.1).1 = 5
    · have e : cut P (a :: l) = ([], some a.2) := if_pos z
      rw [e] at h
      cases h
    · have e : cut P (a :: l) = (a :: (cut P l).1, (cut P l).2) := if_neg z
      rw [e] at h
      cases j with
      | zero => exact h
      | succ j => exact il j x h
theorem cut_no : ∀ l : LFs, (cut P l).2 = none → (cut P l).1 = l := fun l => by
  induction l with
  | nil => exact fun _ => rfl
  | cons a l il =>
    intro h
    by_cases z : (P a.1).1 = 5
    · have e : cut P (a :: l) = ([], some a.2) := if_pos z
      rw [e] at h
      cases h
    · have e : cut P (a :: l) = (a :: (cut P l).1, (cut P l).2) := if_neg z
      rw [e] at h ⊢
      show a :: (cut P l).1 = a :: l
      rw [il h]
theorem cut_s : ∀ (l : LFs) (c : CPs), (cut P l).2 = some c → ∃ q, (q, c) ∈ l := fun l => by
  induction l with
  | nil => exact fun c h => by cases h
  | cons a l il =>
    intro c h
    by_cases z : (P a.1).1 = 5
    · have e : cut P (a :: l) = ([], some a.2) := if_pos z
      rw [e] at h
      refine ⟨a.1, ?_⟩
      rw [← Option.some.inj h]
      exact List.mem_cons_self ..
    · have e : cut P (a :: l) = (a :: (cut P l).1, (cut P l).2) := if_neg z
      rw [e] at h
      obtain ⟨q, hq⟩ := il c h
      exact ⟨q, List.mem_cons_of_mem _ hq⟩
/-- a place, on the reference's side -/
theorem rc_place {rs : LFs} (hS : RSq7 p s n len P X S) (hQ : 1000 ≤ Q) (hk : k ≤ len) (hF : FRq7 S U) (hrs : ∀ x, x ∈ rs → x.1 < n) (hb0 : bd0 rs) (hl : rs.length ≤ 420) (hC : CMl rs U) (hms : ms = true ↔ (bvO b = -1 ∧ (k = 0 ∨ S.1 719 s = 0))) : ∃ V, jb_318_15 Q (s : Int) K15 (p : Int) (bvO b) (rs.length : Int) (k : Int) U = (ev_ck ((k : Int) + 1) fun x62 => K15 (p : Int) (bvO (stb P n (fun _ => true) k rs ms b).2) ((suc (X k) (stb P n (fun _ => true) k rs ms b).1).length : Int) x62 V) ∧ FRq7 S V ∧ CMl (suc (X k) (stb P n (fun _ => true) k rs ms b).1) V ∧ V.1 621 68 = ((stb P n (fun _ => true) k rs ms b).1.length : Int) ∧ (∀ (j q : Nat) (d : CPs), (stb P n (fun _ => true) k rs ms b).1[j]? = some (q, d) → V.1 674 j = (q : Int)) ∧ bd0 (stb P n (fun _ => true) k rs ms b).1 ∧ (∀ e c, (stb P n (fun _ => true) k rs ms b).2 = some (e, c) → b = some (e, c) ∨ (e = k ∧ 0 ≤ c 0 ∧ c 0 ≤ 80)) := by
  have hS0 := hS
  obtain ⟨l2, l3, l33, l34, l74, l75, l76, l77, l718, l719, l720, l721, l722, l69⟩ := al_318
  obtain ⟨s1, ⟨s2, s3, s4, s5, s6⟩, s7, ⟨s8, s9, s10⟩, _⟩ := hS
  obtain ⟨U1, a1, a2, a3, a4, a5⟩ := rc_29 (Q := Q) (s := s) (p := p) (x3 := bvO b) (x4 := (rs.length : Int)) (x5 := (k : Int)) (K15 := K15) 210 Q 0 U (by omega) (by omega) (fun j hj => absurd hj (Nat.not_lt_zero j)) hF
  obtain ⟨U2, b1, b2, b3⟩ := rc_59 (Q := Q) (E := noE) (k := k) (x3 := bvO b) (x5 := (k : Int)) (K15 := K15) hS0 hQ rs (fun _ => false) [] U1 Q 0 hrs (fun i a d hi => by
    rw [Nat.zero_add, a5 676 i (Or.inl rfl), a5 677 i (Or.inr rfl)]
    exact hC i a d hi) a2 ⟨fun i hi => ⟨fun h => Bool.noConfusion h, fun h => absurd (a3 i (by omega)) h⟩, a4, fun j q d h => by cases h⟩ (by
      have := cnf_le (A := fun _ => false) n
      show 0 + _ ≤ 420
      omega) (by omega) (by omega)
  rw [Nat.zero_add] at b1
  rw [List.nil_append] at b3
  obtain ⟨U3, c1, c2, c3⟩ := rc_tail (Q := Q) (E := noE) (K15 := K15) (x3 := bvO b) (ms := ms) hS0 hQ hk b2 hrs b3 hms
  have rn := rts_n (k := k) (ms := ms) s3 hrs
  have r0 : bd0 (rts k rs ms) := fun x hx => by
    unfold rts at hx
    by_cases z : ms = true
    · rw [if_pos z] at hx
      rcases List.mem_append.mp hx with y | y
      · exact hb0 x y
      · have e : x = (0, c0 k) := by simpa using y
        rw [e]
        show 0 ≤ (k : Int) ∧ (k : Int) ≤ 80
        omega
    · rw [if_neg z] at hx
      exact hb0 x hx
  obtain ⟨d1, d2⟩ := dfsL_cnf (E := noE) (k := k) s2 (rts k rs ms) (fun _ => false) rn
  have d0 := dfsL_0 (E := noE) (k := k) s2 (rts k rs ms) (fun _ => false) rn r0
  have cl := cnf_le (A := fun _ => false) n
  have es : stb P n (fun _ => true) k rs ms b = ((cut P (dfsL P noE k n (rts k rs ms) (fun _ => false)).1).1, match (cut P (dfsL P noE k n (rts k rs ms) (fun _ => false)).1).2 with
    | some c => some (k, c)
    | none => b) := by
    unfold stb
    rw [flt_t]
    cases (cut P (dfsL P noE k n (rts k rs ms) (fun _ => false)).1).2 <;> rfl
  rw [es]
  generalize dfsL P noE k n (rts k rs ms) (fun _ => false) = L at c1 c3 d1 d2 d0 ⊢
  obtain ⟨V, e1, e2, e3, e4, e5⟩ := rc_130 (Q := Q) (K15 := K15) hS0 hk L.1 0 [] U3 Q (bvO b) (fun x hx => ⟨(d2 x.1 x.2 hx).1, (d2 x.1 x.2 hx).2, d0 x hx⟩) (fun j a d hj => by
    rw [Nat.zero_add]
    exact c3.2.2 j a d hj) c2 (fun j q d h => by cases h) (by omega) (Nat.le_refl _) (by omega)
  rw [Nat.zero_add] at e1
  rw [List.nil_append] at e1 e3
  refine ⟨V, ?_, e2, e3, ?_, fun j q d hj => ?_, fun x hx => d0 x (cut_m _ hx).1, fun e c he => ?_⟩
  · unfold jb_318_15
    rw [sp_if (by rw [l721]; omega), sp_b, Int.toNat_natCast, hF.1 721 s (by omega) (by omega) (by omega), s9, if_neg (by omega)]
    refine a1.trans (b1.trans (c1.trans (e1.trans ?_)))
    cases hc : (cut P L.1).2 with
    | none => rfl
    | some d => rfl
  · rw [e4]
    cases hc : (cut P L.1).2 with
    | none =>
      show U3.1 621 68 = ((cut P L.1).1.length : Int)
      rw [cut_no _ hc]
      exact c3.2.1
    | some d =>
      show ((0 + (cut P L.1).1.length : Nat) : Int) = ((cut P L.1).1.length : Int)
      rw [Nat.zero_add]
  · rw [e5]
    exact (c3.2.2 j q d (cut_pre _ j (q, d) hj)).1
  · cases hc : (cut P L.1).2 with
    | none =>
      rw [hc] at he
      exact Or.inl he
    | some d =>
      rw [hc] at he
      have he' : (k, d) = (e, c) := Option.some.inj he
      obtain ⟨rfl, rfl⟩ := Prod.mk.inj he'
      obtain ⟨q, hq⟩ := cut_s _ _ hc
      exact Or.inr ⟨rfl, d0 (q, d) hq⟩
end ORL
