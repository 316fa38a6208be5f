/-! ENGINES: threads pass a character; a run -/
section OQU
variable {Q k g w l l2 s s2 wd n x d i pc f m len st r : Nat} {P : Nat → T3} {E : Nat → Int → Bool} {X : Nat → SNs} {lv A : SNs} {c : CPs} {out rs : LFs} {L : List INS} {S S0 S1 S2 T U : ev_St} {a b v stamp : Int} {z : INS} {ms : Bool}
/-- what a run may change -/
def GTc (k : Nat) (S0 S : ev_St) : Prop := (∀ c i, ¬ (k ≤ c ∧ c ≤ k + 9) → S.1 c i = S0.1 c i) ∧ S.2.1 = S0.2.1 ∧ (∀ c i, ¬ (c = k ∧ 2 ≤ i ∧ i ≤ 11) → S.2.2.1 c i = S0.2.2.1 c i) ∧ S.2.2.2 = S0.2.2.2
theorem GTc_r : GTc k S S := ⟨fun _ _ _ => rfl, rfl, fun _ _ _ => rfl, rfl⟩
theorem GTc_t (h1 : GTc k S S1) (h2 : GTc k S1 S2) : GTc k S S2 := ⟨fun c i a => (h2.1 c i a).trans (h1.1 c i a), h2.2.1.trans h1.2.1, fun c i a => (h2.2.2.1 c i a).trans (h1.2.2.1 c i a), h2.2.2.2.trans h1.2.2.2⟩
theorem GTc_h (h : HTc k l s S S1) (hl : k + 1 ≤ l ∧ l ≤ k + 2) (hs : k + 8 ≤ s ∧ s ≤ k + 9) : GTc k S S1 := ⟨fun c i y => h.1 c i (by omega) (by omega) (by omega) (by omega), by rw [h.2], fun c i _ => by rw [h.2], by rw [h.2]⟩
/-- what stands fixed in a run -/
def RST (Q k g w wd n len : Nat) (L : List INS) (P : Nat → T3) (E : Nat → Int → Bool) (X : Nat → SNs) (lv : SNs) (S0 : ev_St) : Prop := ((ev_aln (k + 1) = 208 ∧ ev_aln (k + 2) = 208 ∧ ev_aln (k + 3) = 208 ∧ ev_aln (k + 4) = 832 ∧ ev_aln (k + 5) = 832 ∧ ev_aln (k + 6) = wd ∧ ev_aln (k + 7) = wd ∧ ev_aln (k + 8) = wd * 208 ∧ ev_aln (k + 9) = wd * 208) ∧ al5 g) ∧ (PL g S0 L ∧ n = L.length ∧ 0 < n) ∧ (∀ i z, L[i]? = some z → insP i z (P i)) ∧ (∀ a, a < n → (lv a = true ↔ S0.1 (g + 5) a ≠ 0)) ∧ (∀ x, x ≤ len → ∀ i z, L[i]? = some z → z.1 = 1 → ∀ S, GTc k S0 S → jm_155 Q w z.2.1 (x : Int) S = some (if E x (P i).2.1 = true then 1 else 0, S)) ∧ (∀ x, x ≤ len → ∀ i z, L[i]? = some z → z.1 = 0 → (X x i = true ↔ cs z.2.2.1 z.2.2.2 (sp_at S0 w (x : Int)) ≠ 0)) ∧ (ev_isOb w 10 = true ∧ ev_aln (w + 1) = 160 ∧ (w + 1 < k ∨ k + 9 < w) ∧ S0.1 w 1 = (len : Int) ∧ len ≤ 160) ∧ ((k + 9 < g ∨ g + 5 < k) ∧ (wd = 1 ∨ wd = 20)) ∧ wfP P n
/-- lists and slots change hands -/
def SWc (k g wd l l2 s s2 st : Nat) (S : ev_St) : Prop := (S.2.2.1 k 11 = g + 1 ∧ S.2.2.1 k 2 = l + 1 ∧ S.2.2.1 k 3 = l2 + 1 ∧ S.2.2.1 k 4 = s + 1 ∧ S.2.2.1 k 5 = s2 + 1) ∧ (S.1 k 0 = (wd : Int) ∧ S.1 k 7 = (st : Int)) ∧ ((l = k + 1 ∧ l2 = k + 2) ∨ (l = k + 2 ∧ l2 = k + 1)) ∧ ((s = k + 8 ∧ s2 = k + 9) ∨ (s = k + 9 ∧ s2 = k + 8))
theorem TST_of (hR : RST Q k g w wd n len L P E X lv S0) (hG : GTc k S0 S) (hs : SWc k g wd l l2 s s2 st S) (hx : x ≤ len) : TST Q k g w l s wd n x L P (E x) lv (st : Int) S := by
  obtain ⟨⟨⟨a1, a2, a3, a4, a5, a6, a7, a8, a9⟩, ag⟩, ⟨hp, hn, h0⟩, hI, hl, hE, hX, _, ⟨k1, k4⟩, hw⟩ := hR
  obtain ⟨⟨r1, r2, r3, r4, r5⟩, ⟨e0, e7⟩, ll, ss⟩ := hs
  refine ⟨⟨⟨a3, a4, a5, a6, ?_, ?_⟩, ag⟩, ⟨r1, r2, r4⟩, ⟨e0, e7⟩, ⟨⟨?_, hp.2.1, fun i z hz => ?_⟩, hn⟩, hI, fun a ha => ?_, fun i z hz h1 S2 hF => ?_, ⟨k1, by omega, by omega, k4⟩, hw⟩
  · rcases ll with q | q <;> rw [q.1] <;> assumption
  · rcases ss with q | q <;> rw [q.1] <;> assumption
  · rw [hG.1 g 5 (by omega)]
    exact hp.1
  · obtain ⟨y1, y2, y3⟩ := hp.2.2 i z hz
    rw [hG.1 _ _ (by omega), hG.1 _ _ (by omega), hG.2.1]
    exact ⟨y1, y2, y3⟩
  · rw [hG.1 _ _ (by omega)]
    exact hl a ha
  · exact hE x hx i z hz h1 S2 (GTc_t hG (GTc_h (HTc_f hF) (by omega) (by omega)))
theorem l161 {q : Nat} {x1 y : Int} {r2 r3 : Nat} {sg' : Int} : jl_161_70 Q k (w + 1) (x : Int) (q + 1) x1 r2 r3 sg' y S = jb_161_70 Q k (w + 1) (x : Int) (jl_161_70 Q k (w + 1) (x : Int) q) x1 r2 r3 sg' y S := rfl
/-- the loop over the threads that there were -/
theorem cl_over (hR : RST Q k g w wd n len L P E X lv S0) (hx : x ≤ len) (hQ : 6000 ≤ Q) : ∀ (rest pre : LFs) (S : ev_St) (c : CPs) (rs : LFs) (q : Nat), GTc k S0 S → SWc k g wd l2 l s2 s st S → TRc k l2 s2 wd n (st : Int) (dfsL P (E (x + 1)) (x + 1) n rs (fun _ => false)).2 c (flt lv (dfsL P (E (x + 1)) (x + 1) n rs (fun _ => false)).1) S → (∀ y, y ∈ rs → y.1 < n) → (∀ y, y ∈ rest → y.1 < n ∧ (P y.1).1 = 0) → (∀ y, y ∈ rest → X x y.1 = true → x + 1 ≤ len) → (∀ (i q : Nat) (d : CPs), (pre ++ rest)[i]? = some (q, d) → S.1 l i = (q : Int) ∧ ∀ j, j < wd → S.1 s (wd * i + j) = d j) → pre.length + rest.length ≤ 208 → rest.length < q → ∃ S' c', jl_161_70 Q k (w + 1) (x : Int) q ((pre ++ rest).length : Int) (l + 1) (s + 1) (sp_at S0 w (x : Int)) (pre.length : Int) S = some ((), S') ∧ GTc k S S' ∧ SWc k g wd l2 l s2 s st S' ∧ TRc k l2 s2 wd n (st : Int) (dfsL P (E (x + 1)) (x + 1) n (rs ++ suc (X x) rest) (fun _ => false)).2 c' (flt lv (dfsL P (E (x + 1)) (x + 1) n (rs ++ suc (X x) rest) (fun _ => false)).1) S' ∧ (S'.1 k 14 = S.1 k 14 ∧ S'.1 k 13 = S.1 k 13 ∧ ∀ j, S'.1 (k + 7) j = S.1 (k + 7) j) := fun rest => by
  have hR0 := hR
  obtain ⟨⟨⟨a1, a2, a3, a4, a5, a6, a7, a8, a9⟩, ag⟩, ⟨hp, hn, h0⟩, hI, hl, hE, hX, ⟨w1, w2, w3, w4, w5⟩, ⟨k1, k4⟩, hw⟩ := hR
  have n208 : n ≤ 208 := by rw [hn]; exact hp.2.1
  induction rest with
  | nil =>
    intro pre S c rs q hG hs hT hrs hm hxl hrow hl2 hq
    obtain ⟨q', e⟩ : ∃ q', q = q' + 1 := ⟨q - 1, by have : ([] : LFs).length = 0 := rfl; omega⟩
    refine ⟨S, c, ?_, GTc_r, hs, by rw [show suc (X x) ([] : LFs) = [] from rfl, List.append_nil]; exact hT, rfl, rfl, fun _ => rfl⟩
    rw [e, l161]
    unfold jb_161_70
    rw [List.append_nil, if_pos (Int.le_refl _)]
  | cons y rest ih =>
    intro pre S c rs q hG hs hT hrs hm hxl hrow hl2 hq
    have ll : (y :: rest).length = rest.length + 1 := rfl
    obtain ⟨q', e⟩ : ∃ q', q = q' + 1 := ⟨q - 1, by omega⟩
    have hs0 := hs
    obtain ⟨⟨r1, r2, r3, r4, r5⟩, ⟨e0, e7⟩, lsw, ssw⟩ := hs
    obtain ⟨m1, m2⟩ := hm y (List.mem_cons_self ..)
    obtain ⟨u1, u2⟩ := hrow pre.length y.1 y.2 (by rw [List.getElem?_append_right (Nat.le_refl _), Nat.sub_self]; rfl)
    obtain ⟨z, hz⟩ : ∃ z, L[y.1]? = some z := ⟨L[y.1]'(by omega), List.getElem?_eq_getElem (by omega)⟩
    obtain ⟨p1, p2, p3⟩ := hp.2.2 y.1 z hz
    have z0 : z.1 = 0 := by
      rcases hI y.1 z hz with h | h | h | h | h | h | h <;> omega
    obtain ⟨p4, p5⟩ := p3 z0
    have g5 : S.1 g 5 = (n : Int) := by rw [hG.1 g 5 (by omega), hp.1, hn]
    have al : ev_aln l = 208 ∧ ev_aln s = wd * 208 := by
      refine ⟨?_, ?_⟩
      · rcases lsw with h | h <;> rw [h.2] <;> assumption
      · rcases ssw with h | h <;> rw [h.2] <;> assumption
    have xx := hX x hx y.1 z hz z0
    have e2 : pre ++ y :: rest = (pre ++ [y]) ++ rest := by rw [List.append_assoc]; rfl
    have e3 : ((pre ++ [y]).length : Int) = (pre.length : Int) + 1 := by rw [List.length_append]; rfl
    have lt : ((pre ++ y :: rest).length : Int) = (pre.length : Int) + (rest.length : Int) + 1 := by rw [List.length_append, ll]; omega
    have head : jl_161_70 Q k (w + 1) (x : Int) q ((pre ++ y :: rest).length : Int) (l + 1) (s + 1) (sp_at S0 w (x : Int)) (pre.length : Int) S = if cs z.2.2.1 z.2.2.2 (sp_at S0 w (x : Int)) = 0 then jl_161_70 Q k (w + 1) (x : Int) q' ((pre ++ y :: rest).length : Int) (l + 1) (s + 1) (sp_at S0 w (x : Int)) ((pre.length : Int) + 1) S else (ev_b (S.1 k 0) fun x61 => ev_ck (x61 * (pre.length : Int)) fun x62 => ev_b (S.1 k 0) fun x63 => ev_if ((s + 1) ≠ 0) (ev_if ((0 : Int) ≤ x62 ∧ (0 : Int) ≤ 0 ∧ (0 : Int) ≤ x63 ∧ x62 + x63 ≤ (ev_aln ((s + 1 - 1)) : Int) ∧ 0 + x63 ≤ (ev_aln ((k + 6)) : Int)) (ev_b (ev_cpI S ((s + 1 - 1)) ((k + 6)) (Int.toNat x62) (Int.toNat 0) (Int.toNat x63)) fun s64 => ev_ck ((y.1 : Int) + 1) fun x66 => ev_ck ((x : Int) + 1) fun x67 => ev_bd (jm_162 Q k x66 (w + 1) x67 s64) fun _ s68 => jl_161_70 Q k (w + 1) (x : Int) q' ((pre ++ y :: rest).length : Int) (l + 1) (s + 1) (sp_at S0 w (x : Int)) ((pre.length : Int) + 1) s68))) := by
      rw [e, l161]
      unfold jb_161_70
      rw [if_neg (by omega)]
      try dsimp only
      rw [if_neg (by omega)]
      try dsimp only
      rw [sp_if (by omega), show l + 1 - 1 = l from rfl, al.1, sp_if (by omega), Int.toNat_natCast, sp_b, u1, sp_b, r1, sp_if (by omega), show g + 1 - 1 = g from rfl, sp_70 (n := (n : Int)) g5, sp_bd, if_pos (show 0 ≤ (y.1 : Int) ∧ (y.1 : Int) < (n : Int) ∧ (y.1 : Int) < 208 by omega)]
      try dsimp only
      rw [sp_jn, if_neg (by decide)]
      try dsimp only
      rw [sp_b, r1, sp_if (by omega), show g + 1 - 1 = g from rfl, ag.2.2.1, sp_if (by omega), Int.toNat_natCast, sp_b, sp_b, sp_if (by omega), show g + 1 - 1 = g from rfl, ag.2.2.2.1, sp_if (by omega), sp_b, hG.2.1, p4, p5, sp_214, sp_bd]
      by_cases q0 : cs z.2.2.1 z.2.2.2 (sp_at S0 w (x : Int)) = 0
      · rw [if_pos q0]
        try dsimp only
        rw [if_pos q0]
        try dsimp only
        rw [sp_ck (by omega)]
      · rw [if_neg q0, if_neg q0]
        refine congrArg _ (funext fun x61 => congrArg _ (funext fun x62 => congrArg _ (funext fun x63 => congrArg _ (congrArg _ (congrArg _ (funext fun s64 => congrArg _ (funext fun x66 => congrArg _ (funext fun x67 => congrArg _ (funext fun _ => funext fun s68 => ?_)))))))))
        try dsimp only
        rw [sp_ck (by omega)]
    rw [head]
    by_cases hxx : X x y.1 = true
    · have nz := xx.mp hxx
      have x1 := hxl y (List.mem_cons_self ..) hxx
      have es : suc (X x) (y :: rest) = (y.1 + 1, y.2) :: suc (X x) rest := if_pos hxx
      have mul : (wd : Int) * (pre.length : Int) = ((wd * pre.length : Nat) : Int) := by rw [Int.natCast_mul]
      have mb : wd * pre.length + wd ≤ wd * 208 := by
        have : wd * (pre.length + 1) ≤ wd * 208 := Nat.mul_le_mul_left wd (by omega)
        rw [Nat.mul_add, Nat.mul_one] at this
        exact this
      have w20 : wd * 208 ≤ 4160 := by
        rcases k4 with q | q <;> rw [q] <;> decide
      obtain ⟨Y, hY⟩ : ∃ Y, Y = ev_cpI S s (k + 6) (wd * pre.length) 0 wd := ⟨_, rfl⟩
      have yo : ∀ c i, c ≠ k + 6 → Y.1 c i = S.1 c i := fun c i h => by
        rw [hY, sp_cp1, if_neg (fun q => h q.1)]
      have y2' : Y.2 = S.2 := by rw [hY]; rfl
      have GY : GTc k S Y := ⟨fun c i h => yo c i (by omega), by rw [y2'], fun c i _ => by rw [y2'], by rw [y2']⟩
      have sY : SWc k g wd l2 l s2 s st Y := by
        refine ⟨by rw [y2']; exact ⟨r1, r2, r3, r4, r5⟩, ⟨?_, ?_⟩, lsw, ssw⟩
        · rw [yo _ _ (by omega)]
          exact e0
        · rw [yo _ _ (by omega)]
          exact e7
      have TY : TRc k l2 s2 wd n (st : Int) (dfsL P (E (x + 1)) (x + 1) n rs (fun _ => false)).2 y.2 (flt lv (dfsL P (E (x + 1)) (x + 1) n rs (fun _ => false)).1) Y := by
        refine ⟨fun i hi => by rw [yo _ _ (by omega)]; exact hT.1 i hi, fun j hj => ?_, by rw [yo _ _ (by omega)]; exact hT.2.2.1, fun i q e he => ?_⟩
        · rw [hY, sp_cp1, if_pos ⟨rfl, by omega, by omega⟩]
          try dsimp only
          rw [show wd * pre.length + (j - 0) = wd * pre.length + j from by omega]
          exact u2 j hj
        · obtain ⟨y1, y2⟩ := hT.2.2.2 i q e he
          rw [yo _ _ (by omega)]
          exact ⟨y1, fun j hj => by rw [yo _ _ (by omega)]; exact y2 j hj⟩
      have t1 := TST_of hR0 (GTc_t hG GY) sY x1
      have pn : y.1 + 1 < n := by
        rcases hw y.1 m1 with h | h | h | h | h | h <;> omega
      obtain ⟨c1, c2⟩ := dfsL_cnf (E := E (x + 1)) (k := x + 1) hw rs (fun _ => false) hrs
      have fl := flt_le (lv := lv) (ls := (dfsL P (E (x + 1)) (x + 1) n rs (fun _ => false)).1)
      have cn := cnf_le (A := fun _ => false) n
      obtain ⟨S2, b1, b2, b3⟩ := cl_add t1 FTc_r TY pn (by omega) (by omega)
      have G2 : GTc k Y S2 := GTc_h (HTc_f b2) (by omega) (by omega)
      have s2' : SWc k g wd l2 l s2 s st S2 := by
        obtain ⟨v1, ⟨v2, v3⟩, v4, v5⟩ := sY
        exact ⟨by rw [b2.2]; exact v1, ⟨(b2.1 k 0 (by omega) (by omega) (by omega) (by omega)).trans v2, (b2.1 k 7 (by omega) (by omega) (by omega) (by omega)).trans v3⟩, v4, v5⟩
      have ed : dfsL P (E (x + 1)) (x + 1) n (rs ++ [(y.1 + 1, y.2)]) (fun _ => false) = ((dfsL P (E (x + 1)) (x + 1) n rs (fun _ => false)).1 ++ (dfs P (E (x + 1)) (x + 1) n (y.1 + 1) y.2 (dfsL P (E (x + 1)) (x + 1) n rs (fun _ => false)).2).1, (dfs P (E (x + 1)) (x + 1) n (y.1 + 1) y.2 (dfsL P (E (x + 1)) (x + 1) n rs (fun _ => false)).2).2) := by
        rw [dfsL_app]
        show (_ ++ (_ ++ []), _) = _
        rw [List.append_nil]
        rfl
      have T2 : TRc k l2 s2 wd n (st : Int) (dfsL P (E (x + 1)) (x + 1) n (rs ++ [(y.1 + 1, y.2)]) (fun _ => false)).2 y.2 (flt lv (dfsL P (E (x + 1)) (x + 1) n (rs ++ [(y.1 + 1, y.2)]) (fun _ => false)).1) S2 := by
        rw [ed]
        show TRc k l2 s2 wd n (st : Int) _ y.2 (flt lv (_ ++ _)) S2
        rw [flt_app]
        exact b3
      have rows : ∀ (i q : Nat) (d : CPs), ((pre ++ [y]) ++ rest)[i]? = some (q, d) → S2.1 l i = (q : Int) ∧ ∀ j, j < wd → S2.1 s (wd * i + j) = d j := fun i q d h => by
        rw [← e2] at h
        obtain ⟨h1, h2⟩ := hrow i q d h
        refine ⟨?_, fun j hj => ?_⟩
        · rw [b2.1 _ _ (by omega) (by omega) (by omega) (by omega), yo _ _ (by omega)]
          exact h1
        · rw [b2.1 _ _ (by omega) (by omega) (by omega) (by omega), yo _ _ (by omega)]
          exact h2 j hj
      obtain ⟨S', c', i1, i2, i3, i4, i5, i6, i7⟩ := ih (pre ++ [y]) S2 y.2 (rs ++ [(y.1 + 1, y.2)]) q' (GTc_t hG (GTc_t GY G2)) s2' T2 (fun a ha => by
        rcases List.mem_append.mp ha with h | h
        · exact hrs a h
        · have e : a = (y.1 + 1, y.2) := by simpa using h
          rw [e]
          exact pn) (fun a ha => hm a (List.mem_cons_of_mem _ ha)) (fun a ha => hxl a (List.mem_cons_of_mem _ ha)) rows (by rw [List.length_append]; show pre.length + 1 + rest.length ≤ 208; omega) (by omega)
      refine ⟨S', c', ?_, GTc_t GY (GTc_t G2 i2), i3, ?_, ?_, ?_, fun j => ?_⟩
      · rw [if_neg nz]
        try dsimp only
        rw [sp_b, e0, mul, sp_ck (by omega), sp_b, sp_if (by omega), show s + 1 - 1 = s from rfl, al.2, a6, sp_if (by omega), Int.toNat_natCast, Int.toNat_natCast, show Int.toNat (0 : Int) = 0 from rfl, sp_b, ← hY, sp_ck (by omega), sp_ck (by omega), show (y.1 : Int) + 1 = ((y.1 + 1 : Nat) : Int) from by omega, show (x : Int) + 1 = ((x + 1 : Nat) : Int) from by omega, b1, sp_bd, ← e3]
        rw [e2]
        exact i1
      · rw [es, show rs ++ (y.1 + 1, y.2) :: suc (X x) rest = (rs ++ [(y.1 + 1, y.2)]) ++ suc (X x) rest from by rw [List.append_assoc]; rfl]
        exact i4
      · exact i5.trans ((b2.1 _ _ (by omega) (by omega) (by omega) (by omega)).trans (yo _ _ (by omega)))
      · exact i6.trans ((b2.1 _ _ (by omega) (by omega) (by omega) (by omega)).trans (yo _ _ (by omega)))
      · exact (i7 j).trans ((b2.1 _ _ (by omega) (by omega) (by omega) (by omega)).trans (yo _ _ (by omega)))
    · have nz : cs z.2.2.1 z.2.2.2 (sp_at S0 w (x : Int)) = 0 := Classical.byContradiction fun q => hxx (xx.mpr q)
      have es : suc (X x) (y :: rest) = suc (X x) rest := if_neg hxx
      obtain ⟨S', c', i1, i2⟩ := ih (pre ++ [y]) S c rs q' hG hs0 hT hrs (fun a ha => hm a (List.mem_cons_of_mem _ ha)) (fun a ha => hxl a (List.mem_cons_of_mem _ ha)) (by rw [← e2]; exact hrow) (by rw [List.length_append]; show pre.length + 1 + rest.length ≤ 208; omega) (by omega)
      refine ⟨S', c', ?_, by rw [es]; exact i2⟩
      rw [if_pos nz, ← e3, e2]
      exact i1
/-- past a character -/
theorem cl_pass (hR : RST Q k g w wd n len L P E X lv S0) (hx : x ≤ len) (hQ : 6000 ≤ Q) (hG : GTc k S0 S) (hs : SWc k g wd l l2 s s2 st S) (hst : st ≤ 2000000000) (hT : TRc k l s wd n (st : Int) A c out S) (hm : ∀ y, y ∈ out → y.1 < n ∧ (P y.1).1 = 0) (hxl : ∀ y, y ∈ out → X x y.1 = true → x + 1 ≤ len) (ho : out.length ≤ 208) : ∃ S' c', jm_161 Q k (w + 1) (x : Int) S = some ((), S') ∧ GTc k S S' ∧ SWc k g wd l2 l s2 s (st + 1) S' ∧ TRc k l2 s2 wd n ((st + 1 : Nat) : Int) (dfsL P (E (x + 1)) (x + 1) n (suc (X x) out) (fun _ => false)).2 c' (flt lv (dfsL P (E (x + 1)) (x + 1) n (suc (X x) out) (fun _ => false)).1) S' ∧ (S'.1 k 14 = S.1 k 14 ∧ S'.1 k 13 = S.1 k 13 ∧ ∀ j, S'.1 (k + 7) j = S.1 (k + 7) j) := by
  have hR0 := hR
  obtain ⟨⟨⟨a1, a2, a3, a4, a5, a6, a7, a8, a9⟩, ag⟩, ⟨hp, hn, h0⟩, hI, hl, hE, hX, ⟨w1, w2, w3, w4, w5⟩, ⟨k1, k4⟩, hw⟩ := hR
  obtain ⟨⟨r1, r2, r3, r4, r5⟩, ⟨e0, e7⟩, lsw, ssw⟩ := hs
  obtain ⟨Y, hY⟩ : ∃ Y, Y = ev_pI (ev_pR (ev_pR (ev_pR (ev_pR S k 2 (l2 + 1)) k 4 (s2 + 1)) k 3 (l + 1)) k 5 (s + 1)) k 15 0 := ⟨_, rfl⟩
  obtain ⟨Z, hZ⟩ : ∃ Z, Z = ev_pI Y k 7 ((st + 1 : Nat) : Int) := ⟨_, rfl⟩
  have zo : ∀ c i, ¬ (c = k ∧ (i = 15 ∨ i = 7)) → Z.1 c i = S.1 c i := fun c i h => by
    rw [hZ, sp_pI1, if_neg (by omega)]
    try dsimp only
    rw [hY, sp_pI1, if_neg (by omega)]
    rfl
  have zr : ∀ c i, Z.2.2.1 c i = if c = k ∧ i = 5 then s + 1 else if c = k ∧ i = 3 then l + 1 else if c = k ∧ i = 4 then s2 + 1 else if c = k ∧ i = 2 then l2 + 1 else S.2.2.1 c i := fun c i => by
    rw [hZ, hY]
    rfl
  have GZ : GTc k S Z := ⟨fun c i h => zo c i (by omega), by rw [hZ, hY]; rfl, fun c i h => by rw [zr, if_neg (by omega), if_neg (by omega), if_neg (by omega), if_neg (by omega)], by rw [hZ, hY]; rfl⟩
  have z7 : Z.1 k 7 = ((st + 1 : Nat) : Int) := by rw [hZ, rd_eq]
  have z15 : Z.1 k 15 = 0 := by rw [hZ, rd_nf (by omega), hY, rd_eq]
  have sZ : SWc k g wd l2 l s2 s (st + 1) Z := by
    refine ⟨⟨?_, ?_, ?_, ?_, ?_⟩, ⟨?_, z7⟩, by omega, by omega⟩
    · rw [zr, if_neg (by omega), if_neg (by omega), if_neg (by omega), if_neg (by omega)]
      exact r1
    · rw [zr, if_neg (by omega), if_neg (by omega), if_neg (by omega), if_pos ⟨rfl, rfl⟩]
    · rw [zr, if_neg (by omega), if_pos ⟨rfl, rfl⟩]
    · rw [zr, if_neg (by omega), if_neg (by omega), if_pos ⟨rfl, rfl⟩]
    · rw [zr, if_pos ⟨rfl, rfl⟩]
    · rw [zo _ _ (by omega)]
      exact e0
  have TZ : TRc k l2 s2 wd n ((st + 1 : Nat) : Int) (dfsL P (E (x + 1)) (x + 1) n [] (fun _ => false)).2 c (flt lv (dfsL P (E (x + 1)) (x + 1) n [] (fun _ => false)).1) Z := by
    refine ⟨fun i hi => ?_, fun j hj => ?_, z15, fun i q e he => by cases he⟩
    · rw [zo _ _ (by omega)]
      have := (hT.1 i hi).1
      refine ⟨by omega, fun _ => ⟨fun h => absurd (show false = true from h) (by decide), fun h => ?_⟩⟩
      omega
    · rw [zo _ _ (by omega)]
      exact hT.2.1 j hj
  have at' : sp_at Z w (x : Int) = sp_at S0 w (x : Int) := by
    unfold sp_at
    rw [zo w 1 (by omega), hG.1 w 1 (by omega)]
    by_cases q : w + 1 = k
    · omega
    · rw [zo (w + 1) _ (by omega), hG.1 (w + 1) _ (by omega)]
  obtain ⟨S', c', i1, i2, i3, i4, i5⟩ := cl_over hR0 hx hQ out [] Z c [] Q (GTc_t hG GZ) sZ TZ (fun y hy => by cases hy) hm hxl (fun i q d h => by
    obtain ⟨h1, h2⟩ := hT.2.2.2 i q d h
    refine ⟨?_, fun j hj => ?_⟩
    · rw [zo _ _ (by omega)]
      exact h1
    · rw [zo _ _ (by omega)]
      exact h2 j hj) (by show 0 + out.length ≤ 208; omega) (by omega)
  refine ⟨S', c', ?_, GTc_t GZ i2, i3, i4, ?_, ?_, fun j => ?_⟩
  · unfold jm_161
    have e5 : (ev_pR S k 2 (l2 + 1)).2.2.1 k 5 = s2 + 1 := by
      show (if k = k ∧ 5 = 2 then l2 + 1 else S.2.2.1 k 5) = _
      rw [if_neg (by omega)]
      exact r5
    rw [sp_b, sp_b, sp_b, sp_b, r3, sp_b, sp_b, e5, sp_b, sp_b, sp_b, sp_b, r2, r4, ← hY, sp_b, show Y.1 k 7 = (st : Int) by rw [hY, rd_nf (by omega)]; exact e7, sp_ck (by omega), sp_b, show (st : Int) + 1 = ((st + 1 : Nat) : Int) from by omega, ← hZ, sp_if (by omega), show w + 1 - 1 = w from rfl, sp_151 w1 (by rw [zo w 1 (by omega), hG.1 w 1 (by omega)]; omega), sp_bd, at', hT.2.2.1]
    exact i1
  · exact i5.1.trans (zo _ _ (by omega))
  · exact i5.2.1.trans (zo _ _ (by omega))
  · exact (i5.2.2 j).trans (zo _ _ (by omega))
end OQU
