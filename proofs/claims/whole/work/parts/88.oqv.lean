/-! ENGINES: a run of the class -/
section OQV
variable {Q k g w l l2 s s2 wd n x d i pc f m len st r : Nat} {P : Nat → T3} {E : Nat → Int → Bool} {X : Nat → SNs} {lv A : SNs} {c : CPs} {out rs : LFs} {L : List INS} {S S0 S1 S2 T U : ev_St} {a b v stamp : Int} {z : INS} {ms : Bool}
theorem PK_nil : ∀ r k, PK P n E X lv r k [] false = none := fun r => by
  induction r with
  | zero => exact fun k => rfl
  | succ r ih => exact fun k => ih (k + 1)
/-- what a run comes to -/
def FNc (k wd : Nat) (o : Option (Nat × CPs)) (S S' : ev_St) : Prop := match o with
  | none => S'.1 k 14 = S.1 k 14 ∧ S'.1 k 13 = S.1 k 13 ∧ ∀ j, j < wd → S'.1 (k + 7) j = S.1 (k + 7) j
  | some e => S'.1 k 14 = 1 ∧ S'.1 k 13 = (e.1 : Int) ∧ ∀ j, j < wd → S'.1 (k + 7) j = e.2 j
/-- the shape that a run leaves -/
def THc (k wd B : Nat) (S : ev_St) : Prop := ∃ g l l2 s s2 st, SWc k g wd l l2 s s2 st S ∧ st ≤ B ∧ ∀ i, i < 208 → S.1 (k + 3) i ≤ (st : Int)
theorem cl_run (hR : RST Q k g w wd n len L P E X lv S0) (hQ : 6000 ≤ Q) (hX : ∀ i, X len i = false) : ∀ r x l l2 s s2 st ms rs c S q, x + r = len → GTc k S0 S → SWc k g wd l l2 s s2 st S → st + r ≤ 1999999999 → TRc k l s wd n (st : Int) (dfsL P (E x) x n rs (fun _ => false)).2 c (flt lv (dfsL P (E x) x n rs (fun _ => false)).1) S → (∀ y, y ∈ rs → y.1 < n) → (ms = true ↔ S.1 k 14 = 0) → r + 1 < q → ∃ S', jl_157_8 Q k (w + 1) q (x : Int) S = some ((), S') ∧ GTc k S S' ∧ THc k wd (st + r + 1) S' ∧ FNc k wd (PK P n E X lv r x rs ms) S S' := fun r => by
  have hR0 := hR
  obtain ⟨⟨⟨a1, a2, a3, a4, a5, a6, a7, a8, a9⟩, ag⟩, ⟨hp, hn, h0⟩, hI, hl, hE, hXX, ⟨w1, w2, w3, w4, w5⟩, ⟨k1, k4⟩, hw⟩ := hR
  have n208 : n ≤ 208 := by rw [hn]; exact hp.2.1
  have one : ∀ x l l2 s s2 st ms rs c S q, x ≤ len → GTc k S0 S → SWc k g wd l l2 s s2 st S → st ≤ 1999999999 → TRc k l s wd n (st : Int) (dfsL P (E x) x n rs (fun _ => false)).2 c (flt lv (dfsL P (E x) x n rs (fun _ => false)).1) S → (∀ y, y ∈ rs → y.1 < n) → (ms = true ↔ S.1 k 14 = 0) → ∃ S1 c1, GTc k S S1 ∧ SWc k g wd l l2 s s2 st S1 ∧ TRc k l s wd n (st : Int) (dfsL P (E x) x n (rts x rs ms) (fun _ => false)).2 c1 (cut P (flt lv (dfsL P (E x) x n (rts x rs ms) (fun _ => false)).1)).1 S1 ∧ (match (cut P (flt lv (dfsL P (E x) x n (rts x rs ms) (fun _ => false)).1)).2 with
      | none => S1.1 k 14 = S.1 k 14 ∧ S1.1 k 13 = S.1 k 13 ∧ ∀ j, j < wd → S1.1 (k + 7) j = S.1 (k + 7) j
      | some e => S1.1 k 14 = 1 ∧ S1.1 k 13 = (x : Int) ∧ ∀ j, j < wd → S1.1 (k + 7) j = e j) ∧ (∀ y, y ∈ (cut P (flt lv (dfsL P (E x) x n (rts x rs ms) (fun _ => false)).1)).1 → y.1 < n ∧ (P y.1).1 = 0) ∧ (cut P (flt lv (dfsL P (E x) x n (rts x rs ms) (fun _ => false)).1)).1.length ≤ 208 ∧ (∀ y, y ∈ suc (X x) (cut P (flt lv (dfsL P (E x) x n (rts x rs ms) (fun _ => false)).1)).1 → y.1 < n) ∧ jl_157_8 Q k (w + 1) (q + 1) (x : Int) S = ev_b (S1.1 k 14) fun x12 => ev_jn (fun (s17 : ev_St) => ev_bd (jm_161 Q k (w + 1) (x : Int) s17) fun _ s18 => jl_157_8 Q k (w + 1) q ((x + 1 : Nat) : Int) s18) fun K40 => if x12 = 0 then (K40 S1) else (ev_b (S1.1 k 15) fun x21 => if x21 ≠ 0 then (K40 S1) else (some ((), S1))) := fun x l l2 s s2 st ms rs c S q hx hG hs hst hT hrs hms => by
    have t1 := TST_of hR0 hG hs hx
    obtain ⟨S1, c1, p1, p2, p3, p4⟩ := cl_settle (rs := rs) (ms := ms) (a2 := 1) t1 a7 FTc_r hT hrs h0 (hms.trans ⟨fun h => ⟨by decide, h⟩, fun h => h.2⟩) hQ
    obtain ⟨m1, m2⟩ := dfsL_cnf (E := E x) (k := x) hw (rts x rs ms) (fun _ => false) (rts_n h0 hrs)
    have fl := flt_le (lv := lv) (ls := (dfsL P (E x) x n (rts x rs ms) (fun _ => false)).1)
    have cl := cut_le (P := P) (ls := flt lv (dfsL P (E x) x n (rts x rs ms) (fun _ => false)).1)
    have cn := cnf_le (A := fun _ => false) n
    obtain ⟨v1, ⟨v2, v3⟩, v4, v5⟩ := hs
    refine ⟨S1, c1, GTc_h p2 (by omega) (by omega), ⟨by rw [p2.2]; exact v1, ⟨(p2.1 k 0 (by omega) (by omega) (by omega) (by omega)).trans v2, (p2.1 k 7 (by omega) (by omega) (by omega) (by omega)).trans v3⟩, v4, v5⟩, p3, p4, fun y hy => ?_, by omega, suc_n hw (fun y hy => m2 y.1 y.2 (flt_mem hy)), ?_⟩
    · obtain ⟨q1, q2⟩ := cut_mem hy
      obtain ⟨q3, q4⟩ := m2 y.1 y.2 (flt_mem q1)
      exact ⟨q3, by omega⟩
    · show jb_157_8 Q k (w + 1) (jl_157_8 Q k (w + 1) q) (x : Int) S = _
      unfold jb_157_8
      rw [sp_if (by omega), show w + 1 - 1 = w from rfl, sp_b, hG.1 w 1 (by omega), w4, if_neg (by omega)]
      try dsimp only
      rw [p1, sp_bd]
      refine congrArg _ (funext fun x12 => ?_)
      have ck : ∀ s, (ev_ck ((x : Int) + 1) fun x19 => jl_157_8 Q k (w + 1) q x19 s) = jl_157_8 Q k (w + 1) q ((x + 1 : Nat) : Int) s := fun s => by
        rw [sp_ck (by omega), show (x : Int) + 1 = ((x + 1 : Nat) : Int) from by omega]
      simp only [ck, sp_jn]
  induction r with
  | zero =>
    intro x l l2 s s2 st ms rs c S q hx hG hs hst hT hrs hms hq
    obtain ⟨q', e⟩ : ∃ q', q = q' + 1 + 1 := ⟨q - 2, by omega⟩
    obtain ⟨S1, c1, g1, g2, g3, g4, g5, g6, g7, g8⟩ := one x l l2 s s2 st ms rs c S (q' + 1) (by omega) hG hs (by omega) hT hrs hms
    rw [e, g8, sp_b, sp_jn]
    have fin : ∀ S', (S'.1 k 14 = S1.1 k 14 ∧ S'.1 k 13 = S1.1 k 13 ∧ ∀ j, S'.1 (k + 7) j = S1.1 (k + 7) j) → FNc k wd (PK P n E X lv 0 x rs ms) S S' := fun S' h => by
      unfold PK FNc
      generalize (cut P (flt lv (dfsL P (E x) x n (rts x rs ms) (fun _ => false)).1)).2 = o at g4 ⊢
      cases o with
      | none => exact ⟨h.1.trans g4.1, h.2.1.trans g4.2.1, fun j hj => (h.2.2 j).trans (g4.2.2 j hj)⟩
      | some e => exact ⟨h.1.trans g4.1, h.2.1.trans g4.2.1, fun j hj => (h.2.2 j).trans (g4.2.2 j hj)⟩
    have goes : ∃ S', (ev_bd (jm_161 Q k (w + 1) (x : Int) S1) fun _ s18 => jl_157_8 Q k (w + 1) (q' + 1) ((x + 1 : Nat) : Int) s18) = some ((), S') ∧ GTc k S S' ∧ THc k wd (st + 0 + 1) S' ∧ FNc k wd (PK P n E X lv 0 x rs ms) S S' := by
      have xf : ∀ y : Nat × CPs, X x y.1 = true → x + 1 ≤ len := fun y h => by
        rw [show x = len by omega, hX] at h
        cases h
      obtain ⟨S2, c2, b1, b2, b3, b4, b5⟩ := cl_pass hR0 (show x ≤ len by omega) hQ (GTc_t hG g1) g2 (by omega) g3 g5 (fun y _ h => xf y h) g6
      refine ⟨S2, ?_, GTc_t g1 b2, ⟨g, l2, l, s2, s, st + 1, b3, by omega, fun i hi => (b4.1 i hi).1⟩, fin S2 b5⟩
      rw [b1, sp_bd]
      show jb_157_8 Q k (w + 1) (jl_157_8 Q k (w + 1) q') ((x + 1 : Nat) : Int) S2 = _
      unfold jb_157_8
      rw [sp_if (by omega), show w + 1 - 1 = w from rfl, sp_b, b2.1 w 1 (by omega), g1.1 w 1 (by omega), hG.1 w 1 (by omega), w4, if_pos (by omega)]
    by_cases z1 : S1.1 k 14 = 0
    · rw [if_pos z1]
      exact goes
    · rw [if_neg z1]
      try dsimp only
      rw [sp_b]
      by_cases z2 : S1.1 k 15 = 0
      · rw [if_neg (fun z => z z2)]
        exact ⟨S1, rfl, g1, ⟨g, l, l2, s, s2, st, g2, by omega, fun i hi => (g3.1 i hi).1⟩, fin S1 ⟨rfl, rfl, fun _ => rfl⟩⟩
      · rw [if_pos z2]
        exact goes
  | succ r ih =>
    intro x l l2 s s2 st ms rs c S q hx hG hs hst hT hrs hms hq
    obtain ⟨q', e⟩ : ∃ q', q = q' + 1 := ⟨q - 1, by omega⟩
    obtain ⟨S1, c1, g1, g2, g3, g4, g5, g6, g7, g8⟩ := one x l l2 s s2 st ms rs c S q' (by omega) hG hs (by omega) hT hrs hms
    rw [e, g8, sp_b, sp_jn]
    -- whether new ones may start behind
    obtain ⟨m2, hm2⟩ : ∃ m2 : Bool, m2 = (match (cut P (flt lv (dfsL P (E x) x n (rts x rs ms) (fun _ => false)).1)).2 with
      | none => ms
      | some _ => false) := ⟨_, rfl⟩
    have ms2 : m2 = true ↔ S1.1 k 14 = 0 := by
      rw [hm2]
      generalize (cut P (flt lv (dfsL P (E x) x n (rts x rs ms) (fun _ => false)).1)).2 = o at g4 ⊢
      cases o with
      | none =>
        rw [g4.1]
        exact hms
      | some e =>
        rw [g4.1]
        exact ⟨fun h => absurd (show false = true from h) (by decide), fun h => absurd h (by decide)⟩
    have fin : ∀ S', FNc k wd (PK P n E X lv r (x + 1) (suc (X x) (cut P (flt lv (dfsL P (E x) x n (rts x rs ms) (fun _ => false)).1)).1) m2) S1 S' → FNc k wd (PK P n E X lv (r + 1) x rs ms) S S' := fun S' h => by
      unfold PK
      rw [hm2] at h
      generalize (cut P (flt lv (dfsL P (E x) x n (rts x rs ms) (fun _ => false)).1)).2 = o at g4 h ⊢
      cases o with
      | none =>
        show FNc k wd (PK P n E X lv r (x + 1) (suc (X x) (cut P (flt lv (dfsL P (E x) x n (rts x rs ms) (fun _ => false)).1)).1) ms) S S'
        have h' : FNc k wd (PK P n E X lv r (x + 1) (suc (X x) (cut P (flt lv (dfsL P (E x) x n (rts x rs ms) (fun _ => false)).1)).1) ms) S1 S' := h
        generalize PK P n E X lv r (x + 1) (suc (X x) (cut P (flt lv (dfsL P (E x) x n (rts x rs ms) (fun _ => false)).1)).1) ms = o2 at h' ⊢
        cases o2 with
        | none =>
          obtain ⟨i1, i2, i3⟩ := h'
          exact ⟨i1.trans g4.1, i2.trans g4.2.1, fun j hj => (i3 j hj).trans (g4.2.2 j hj)⟩
        | some u => exact h'
      | some e =>
        have h' : FNc k wd (PK P n E X lv r (x + 1) (suc (X x) (cut P (flt lv (dfsL P (E x) x n (rts x rs ms) (fun _ => false)).1)).1) false) S1 S' := h
        show FNc k wd (match PK P n E X lv r (x + 1) (suc (X x) (cut P (flt lv (dfsL P (E x) x n (rts x rs ms) (fun _ => false)).1)).1) false with
          | some x => some x
          | none => some (x, e)) S S'
        generalize PK P n E X lv r (x + 1) (suc (X x) (cut P (flt lv (dfsL P (E x) x n (rts x rs ms) (fun _ => false)).1)).1) false = o2 at h' ⊢
        cases o2 with
        | none =>
          obtain ⟨i1, i2, i3⟩ := h'
          exact ⟨i1.trans g4.1, i2.trans g4.2.1, fun j hj => (i3 j hj).trans (g4.2.2 j hj)⟩
        | some u => exact h'
    have goes : ∃ S', (ev_bd (jm_161 Q k (w + 1) (x : Int) S1) fun _ s18 => jl_157_8 Q k (w + 1) q' ((x + 1 : Nat) : Int) s18) = some ((), S') ∧ GTc k S S' ∧ THc k wd (st + (r + 1) + 1) S' ∧ FNc k wd (PK P n E X lv (r + 1) x rs ms) S S' := by
      obtain ⟨S2, c2, b1, b2, b3, b4, b5⟩ := cl_pass hR0 (show x ≤ len by omega) hQ (GTc_t hG g1) g2 (by omega) g3 g5 (fun y _ _ => by omega) g6
      obtain ⟨S', i1, i2, i3, i4⟩ := ih (x + 1) l2 l s2 s (st + 1) m2 (suc (X x) (cut P (flt lv (dfsL P (E x) x n (rts x rs ms) (fun _ => false)).1)).1) c2 S2 q' (by omega) (GTc_t hG (GTc_t g1 b2)) b3 (by omega) b4 g7 (by rw [b5.1]; exact ms2) (by omega)
      obtain ⟨t1, t2, t3, t4, t5, t6, t7, t8, t9⟩ := i3
      refine ⟨S', by rw [b1, sp_bd]; exact i1, GTc_t g1 (GTc_t b2 i2), ⟨t1, t2, t3, t4, t5, t6, t7, by omega, t9⟩, fin S' ?_⟩
      generalize PK P n E X lv r (x + 1) (suc (X x) (cut P (flt lv (dfsL P (E x) x n (rts x rs ms) (fun _ => false)).1)).1) m2 = o at i4 ⊢
      cases o with
      | none =>
        obtain ⟨j1, j2, j3⟩ := i4
        exact ⟨j1.trans b5.1, j2.trans b5.2.1, fun j hj => (j3 j hj).trans (b5.2.2 j)⟩
      | some u => exact i4
    by_cases z1 : S1.1 k 14 = 0
    · rw [if_pos z1]
      exact goes
    · rw [if_neg z1]
      try dsimp only
      rw [sp_b]
      by_cases z2 : S1.1 k 15 = 0
      · rw [if_neg (fun z => z z2)]
        -- no thread is left, and none may start
        have le : (cut P (flt lv (dfsL P (E x) x n (rts x rs ms) (fun _ => false)).1)).1 = [] := by
          have := g3.2.2.1
          rw [z2] at this
          exact List.eq_nil_of_length_eq_zero (by omega)
        have mf : m2 = false := by
          cases hh : m2 with
          | false => rfl
          | true => exact absurd (ms2.mp hh) z1
        refine ⟨S1, rfl, g1, ⟨g, l, l2, s, s2, st, g2, by omega, fun i hi => (g3.1 i hi).1⟩, fin S1 ?_⟩
        rw [le, mf]
        show FNc k wd (PK P n E X lv r (x + 1) [] false) S1 S1
        rw [PK_nil]
        exact ⟨rfl, rfl, fun _ _ => rfl⟩
      · rw [if_pos z2]
        exact goes
/-- a run from a place -/
theorem cl_157 {g' : Nat} (hR : RST Q k g w wd n len L P E X lv S0) (hQ : 6000 ≤ Q) (hX : ∀ i, X len i = false) (hs : SWc k g' wd l l2 s s2 st S0) (hst : st + len ≤ 1999999900) (hse : ∀ i, i < 208 → S0.1 (k + 3) i ≤ (st : Int)) (hx : x ≤ len) : ∃ S', jm_157 Q k (g + 1) (w + 1) (x : Int) S0 = some ((), S') ∧ GTc k S0 S' ∧ THc k wd (st + len + 2) S' ∧ (match PK P n E X lv (len - x) x [] true with
    | none => S'.1 k 14 = 0
    | some e => S'.1 k 14 = 1 ∧ S'.1 k 13 = (e.1 : Int) ∧ ∀ j, j < wd → S'.1 (k + 7) j = e.2 j) := by
  obtain ⟨⟨r1, r2, r3, r4, r5⟩, ⟨e0, e7⟩, lsw, ssw⟩ := hs
  have hR0 := hR
  obtain ⟨⟨⟨a1, a2, a3, a4, a5, a6, a7, a8, a9⟩, ag⟩, ⟨hp, hn, h0⟩, hI, hl, hE, hXX, ⟨w1, w2, w3, w4, w5⟩, ⟨k1, k4⟩, hw⟩ := hR
  obtain ⟨Y, hY⟩ : ∃ Y, Y = ev_pI (ev_pI (ev_pR S0 k 11 (g + 1)) k 15 0) k 14 0 := ⟨_, rfl⟩
  obtain ⟨Z, hZ⟩ : ∃ Z, Z = ev_pI Y k 7 ((st + 1 : Nat) : Int) := ⟨_, rfl⟩
  have zo : ∀ c i, ¬ (c = k ∧ (i = 15 ∨ i = 14 ∨ i = 7)) → Z.1 c i = S0.1 c i := fun c i h => by
    rw [hZ, sp_pI1, if_neg (by omega)]
    try dsimp only
    rw [hY, sp_pI1, if_neg (by omega)]
    try dsimp only
    rw [sp_pI1, if_neg (by omega)]
    rfl
  have zr : ∀ c i, Z.2.2.1 c i = if c = k ∧ i = 11 then g + 1 else S0.2.2.1 c i := fun c i => by
    rw [hZ, hY]
    rfl
  have GZ : GTc k S0 Z := ⟨fun c i h => zo c i (by omega), by rw [hZ, hY]; rfl, fun c i h => by rw [zr, if_neg (by omega)], by rw [hZ, hY]; rfl⟩
  -- the same ground, with the program in its place
  have hRZ : RST Q k g w wd n len L P E X lv Z := by
    refine ⟨⟨⟨a1, a2, a3, a4, a5, a6, a7, a8, a9⟩, ag⟩, ⟨⟨?_, hp.2.1, fun i z hz => ?_⟩, hn, h0⟩, hI, fun a ha => ?_, fun x hx i z hz h1 S hS => hE x hx i z hz h1 S (GTc_t GZ hS), fun x hx i z hz h1 => ?_, ⟨w1, w2, w3, ?_, w5⟩, ⟨k1, k4⟩, hw⟩
    · rw [zo _ _ (by omega)]
      exact hp.1
    · obtain ⟨y1, y2, y3⟩ := hp.2.2 i z hz
      rw [zo _ _ (by omega), zo _ _ (by omega), GZ.2.1]
      exact ⟨y1, y2, y3⟩
    · rw [zo _ _ (by omega)]
      exact hl a ha
    · rw [show sp_at Z w (x : Int) = sp_at S0 w (x : Int) by unfold sp_at; rw [zo w 1 (by omega), zo (w + 1) _ (by omega)]]
      exact hXX x hx i z hz h1
    · rw [zo _ _ (by omega)]
      exact w4
  have sZ : SWc k g wd l l2 s s2 (st + 1) Z := by
    refine ⟨⟨?_, ?_, ?_, ?_, ?_⟩, ⟨?_, by rw [hZ, rd_eq]⟩, lsw, ssw⟩
    · rw [zr, if_pos ⟨rfl, rfl⟩]
    · rw [zr, if_neg (by omega)]
      exact r2
    · rw [zr, if_neg (by omega)]
      exact r3
    · rw [zr, if_neg (by omega)]
      exact r4
    · rw [zr, if_neg (by omega)]
      exact r5
    · rw [zo _ _ (by omega)]
      exact e0
  have z14 : Z.1 k 14 = 0 := by rw [hZ, rd_nf (by omega), hY, rd_eq]
  have TZ : TRc k l s wd n ((st + 1 : Nat) : Int) (dfsL P (E x) x n [] (fun _ => false)).2 (fun j => Z.1 (k + 6) j) (flt lv (dfsL P (E x) x n [] (fun _ => false)).1) Z := by
    refine ⟨fun i hi => ?_, fun j hj => rfl, ?_, fun i q e he => by cases he⟩
    · rw [zo _ _ (by omega)]
      have := hse i hi
      refine ⟨by omega, fun _ => ⟨fun h => absurd (show false = true from h) (by decide), fun h => by omega⟩⟩
    · rw [hZ, rd_nf (by omega), hY, rd_nf (by omega), rd_eq]
      rfl
  obtain ⟨S', i1, i2, i3, i4⟩ := cl_run hRZ hQ hX (len - x) x l l2 s s2 (st + 1) true [] (fun j => Z.1 (k + 6) j) Z Q (by omega) GTc_r sZ (by omega) TZ (fun y hy => by cases hy) ⟨fun _ => z14, fun _ => rfl⟩ (by omega)
  obtain ⟨t1, t2, t3, t4, t5, t6, t7, t8, t9⟩ := i3
  refine ⟨S', ?_, GTc_t GZ i2, ⟨t1, t2, t3, t4, t5, t6, t7, by omega, t9⟩, ?_⟩
  · unfold jm_157 jm_158
    rw [sp_b, sp_b, sp_b, ← hY, sp_b, show Y.1 k 7 = (st : Int) by rw [hY, rd_nf (by omega), rd_nf (by omega)]; exact e7, sp_ck (by omega), sp_b, show (st : Int) + 1 = ((st + 1 : Nat) : Int) from by omega, ← hZ, sp_bd]
    exact i1
  · generalize PK P n E X lv (len - x) x [] true = o at i4 ⊢
    cases o with
    | none => exact i4.1.trans z14
    | some e => exact i4
end OQV
