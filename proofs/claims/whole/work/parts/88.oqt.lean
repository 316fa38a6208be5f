/-! ENGINES: threads settle at a place -/
section OQT
variable {Q k g w l s wd n x d i pc f m t t2 : Nat} {P : Nat → T3} {E : Int → Bool} {lv A : SNs} {c : CPs} {out : LFs} {L : List INS} {S S0 S1 S2 T U : ev_St} {a b v stamp : Int} {z : INS}
/-- what settling may change -/
def HTc (k l s : Nat) (S0 S : ev_St) : Prop := (∀ c i, ¬ (c = k ∧ (i = 10 ∨ i = 13 ∨ i = 14 ∨ i = 15)) → ¬ (k + 3 ≤ c ∧ c ≤ k + 7) → c ≠ l → c ≠ s → S.1 c i = S0.1 c i) ∧ S.2 = S0.2
theorem HTc_r : HTc k l s S S := ⟨fun _ _ _ _ _ _ => rfl, rfl⟩
theorem HTc_t (h1 : HTc k l s S S1) (h2 : HTc k l s S1 S2) : HTc k l s S S2 := ⟨fun c i a b c1 d => (h2.1 c i a b c1 d).trans (h1.1 c i a b c1 d), h2.2.trans h1.2⟩
theorem HTc_f (h : FTc k l s S S1) : HTc k l s S S1 := ⟨fun c i y1 y2 y3 y4 => h.1 c i (by omega) (by omega) y3 y4, h.2⟩
theorem cl_scan (hL : PL g S0 L) (hn : n = L.length) (hI : ∀ i z, L[i]? = some z → insP i z (P i)) (hr : S0.2.2.1 k 11 = g + 1 ∧ S0.2.2.1 k 2 = l + 1 ∧ S0.2.2.1 k 4 = s + 1) (hw0 : S0.1 k 0 = (wd : Int)) (ha : ev_aln l = 208 ∧ ev_aln s = wd * 208 ∧ ev_aln (k + 7) = wd) (hg : al5 g) (k1 : k + 9 < g ∨ g + 5 < k) (k2 : k + 1 ≤ l ∧ l ≤ k + 2) (k3 : k + 8 ≤ s ∧ s ≤ k + 9) (k4 : wd = 1 ∨ wd = 20) : ∀ (rest pre : LFs) (S : ev_St) (q : Nat), HTc k l s S0 S → TRc k l s wd n stamp A c (pre ++ rest) S → (∀ y, y ∈ rest → y.1 < n ∧ ((P y.1).1 = 0 ∨ (P y.1).1 = 5)) → pre.length + rest.length ≤ 208 → rest.length < q → ∃ S', jl_160_36 Q k (x : Int) q (pre.length : Int) S = some ((), S') ∧ HTc k l s S S' ∧ TRc k l s wd n stamp A c (pre ++ (cut P rest).1) S' ∧ (match (cut P rest).2 with
    | none => S' = S
    | some e => S'.1 k 14 = 1 ∧ S'.1 k 13 = (x : Int) ∧ ∀ j, j < wd → S'.1 (k + 7) j = e j) := fun rest => by
  induction rest with
  | nil =>
    intro pre S q hF hR hm hl hq
    obtain ⟨q', e⟩ : ∃ q', q = q' + 1 := ⟨q - 1, by have : ([] : LFs).length = 0 := rfl; omega⟩
    refine ⟨S, ?_, HTc_r, hR, rfl⟩
    have cn := hR.2.2.1
    rw [List.append_nil] at cn
    rw [e]
    show jb_160_36 Q k (x : Int) (jl_160_36 Q k (x : Int) q') (pre.length : Int) S = _
    unfold jb_160_36
    rw [sp_b, cn, if_pos (Int.le_refl _)]
  | cons y rest ih =>
    intro pre S q hF hR hm hl hq
    have ll : (y :: rest).length = rest.length + 1 := rfl
    obtain ⟨q', e⟩ : ∃ q', q = q' + 1 := ⟨q - 1, by omega⟩
    have cn := hR.2.2.1
    rw [List.length_append, ll] at cn
    obtain ⟨m1, m2⟩ := hm y (List.mem_cons_self ..)
    obtain ⟨u1, u2⟩ := hR.2.2.2 pre.length y.1 y.2 (by rw [List.getElem?_append_right (Nat.le_refl _), Nat.sub_self]; rfl)
    obtain ⟨z, hz⟩ : ∃ z, L[y.1]? = some z := ⟨L[y.1]'(by omega), List.getElem?_eq_getElem (by omega)⟩
    obtain ⟨p1, p2, p3⟩ := hL.2.2 y.1 z hz
    have n208 : n ≤ 208 := by rw [hn]; exact hL.2.1
    have g5 : S.1 g 5 = (n : Int) := by
      rw [hF.1 g 5 (by omega) (by omega) (by omega) (by omega), hL.1, hn]
    have op : S.1 (g + 1) y.1 = z.1 := by
      rw [hF.1 _ _ (by omega) (by omega) (by omega) (by omega)]
      exact p1
    have w0 : S.1 k 0 = (wd : Int) := (hF.1 k 0 (by omega) (by omega) (by omega) (by omega)).trans hw0
    have r1 : S.2.2.1 k 11 = g + 1 := by rw [hF.2]; exact hr.1
    have r2 : S.2.2.1 k 2 = l + 1 := by rw [hF.2]; exact hr.2.1
    have r4 : S.2.2.1 k 4 = s + 1 := by rw [hF.2]; exact hr.2.2
    have ins := hI y.1 z hz
    have head : jl_160_36 Q k (x : Int) q (pre.length : Int) S = ev_jn (fun (s25 : ev_St) => ev_ck ((pre.length : Int) + 1) fun x26 => jl_160_36 Q k (x : Int) q' x26 s25) fun K128 => if z.1 ≠ 6 then K128 S else (ev_b (ev_pI S k 14 1) fun s32 => ev_b (ev_pI s32 k 13 (x : Int)) fun s33 => ev_b (s33.2.2.1 k 4) fun r34 => ev_b (s33.1 k 0) fun x35 => ev_ck (x35 * (pre.length : Int)) fun x36 => ev_b (s33.1 k 0) fun x37 => ev_if (r34 ≠ 0) (ev_if ((0 : Int) ≤ x36 ∧ (0 : Int) ≤ 0 ∧ (0 : Int) ≤ x37 ∧ x36 + x37 ≤ (ev_aln ((r34 - 1)) : Int) ∧ 0 + x37 ≤ (ev_aln ((k + 7)) : Int)) (ev_b (ev_cpI s33 ((r34 - 1)) ((k + 7)) (Int.toNat x36) (Int.toNat 0) (Int.toNat x37)) fun s38 => ev_b (ev_pI s38 k 15 (pre.length : Int)) fun s40 => K128 s40))) := by
      rw [e]
      show jb_160_36 Q k (x : Int) (jl_160_36 Q k (x : Int) q') (pre.length : Int) S = _
      unfold jb_160_36
      rw [sp_b, cn, if_neg (by omega)]
      try dsimp only
      rw [if_neg (by omega)]
      try dsimp only
      rw [sp_b, r2, sp_if (by omega), show l + 1 - 1 = l from rfl, ha.1, sp_if (by omega), Int.toNat_natCast, sp_b, u1, sp_b, r1, sp_if (by omega), show g + 1 - 1 = g from rfl, sp_70 (n := (n : Int)) g5, sp_bd, if_pos (show 0 ≤ (y.1 : Int) ∧ (y.1 : Int) < (n : Int) ∧ (y.1 : Int) < 208 by omega)]
      try dsimp only
      rw [sp_jn, sp_jn, if_neg (by decide)]
      try dsimp only
      rw [sp_b, r1, sp_if (by omega), show g + 1 - 1 = g from rfl, hg.1, sp_if (by omega), Int.toNat_natCast, sp_b, op]
    rw [head, sp_jn]
    have e2 : pre ++ y :: rest = (pre ++ [y]) ++ rest := by rw [List.append_assoc]; rfl
    by_cases o5 : (P y.1).1 = 5
    · have z6 : z.1 = 6 := by
        rcases ins with q | q | q | q | q | q | q <;> omega
      have ec : cut P (y :: rest) = ([], some y.2) := if_pos o5
      rw [ec, if_neg (fun q => q z6), List.append_nil]
      obtain ⟨X, hX⟩ : ∃ X, X = ev_pI (ev_pI S k 14 1) k 13 (x : Int) := ⟨_, rfl⟩
      obtain ⟨Y, hY⟩ : ∃ Y, Y = ev_cpI X s (k + 7) (wd * pre.length) 0 wd := ⟨_, rfl⟩
      have mul : (wd : Int) * (pre.length : Int) = ((wd * pre.length : Nat) : Int) := by rw [Int.natCast_mul]
      have mb : wd * pre.length + wd ≤ wd * 208 := by
        have : wd * (pre.length + 1) ≤ wd * 208 := Nat.mul_le_mul_left wd (by omega)
        rw [Nat.mul_add, Nat.mul_one] at this
        exact this
      have w20 : wd * 208 ≤ 4160 := by
        rcases k4 with q | q <;> rw [q] <;> decide
      have xo : ∀ c i, ¬ (c = k ∧ (i = 13 ∨ i = 14)) → X.1 c i = S.1 c i := fun c i h => by
        rw [hX, sp_pI1, if_neg (by omega)]
        try dsimp only
        rw [sp_pI1, if_neg (by omega)]
      have yo : ∀ c i, ¬ (c = k ∧ (i = 13 ∨ i = 14)) → c ≠ k + 7 → Y.1 c i = S.1 c i := fun c i h h2 => by
        rw [hY, sp_cp1, if_neg (fun q => h2 q.1)]
        exact xo c i h
      have Z : jl_160_36 Q k (x : Int) q' ((pre.length : Int) + 1) (ev_pI Y k 15 (pre.length : Int)) = some ((), ev_pI Y k 15 (pre.length : Int)) := by
        obtain ⟨q2, e3⟩ : ∃ q2, q' = q2 + 1 := ⟨q' - 1, by omega⟩
        rw [e3]
        show jb_160_36 Q k (x : Int) (jl_160_36 Q k (x : Int) q2) ((pre.length : Int) + 1) _ = _
        unfold jb_160_36
        rw [sp_b, rd_eq, if_pos (by omega)]
      refine ⟨ev_pI Y k 15 (pre.length : Int), ?_, ⟨fun c i y1 y2 y3 y4 => ?_, ?_⟩, ⟨fun i hi => ?_, fun j hj => ?_, ?_, fun i q e he => ?_⟩, ?_, ?_, fun j hj => ?_⟩
      · rw [sp_b, sp_b, ← hX, sp_b]
        show (ev_b (X.1 k 0) fun x35 => ev_ck (x35 * (pre.length : Int)) fun x36 => ev_b (X.1 k 0) fun x37 => ev_if (X.2.2.1 k 4 ≠ 0) (ev_if ((0 : Int) ≤ x36 ∧ (0 : Int) ≤ 0 ∧ (0 : Int) ≤ x37 ∧ x36 + x37 ≤ (ev_aln ((X.2.2.1 k 4 - 1)) : Int) ∧ 0 + x37 ≤ (ev_aln ((k + 7)) : Int)) (ev_b (ev_cpI X ((X.2.2.1 k 4 - 1)) ((k + 7)) (Int.toNat x36) (Int.toNat 0) (Int.toNat x37)) fun s38 => ev_b (ev_pI s38 k 15 (pre.length : Int)) fun s40 => ev_ck ((pre.length : Int) + 1) fun x26 => jl_160_36 Q k (x : Int) q' x26 s40))) = _
        rw [show X.2.2.1 k 4 = s + 1 by rw [hX]; exact r4, xo k 0 (by omega), w0, sp_b, mul, sp_ck (by omega), sp_b, sp_if (by omega), show s + 1 - 1 = s from rfl, ha.2.1, ha.2.2, sp_if (by omega), Int.toNat_natCast, Int.toNat_natCast, show Int.toNat (0 : Int) = 0 from rfl, sp_b, ← hY, sp_b, sp_ck (by omega), Z]
      · rw [sp_pI1, if_neg (by omega)]
        try dsimp only
        rw [yo c i (by omega) (by omega)]
      · rw [hY, hX]
        rfl
      · rw [rd_nk (by omega), yo _ _ (by omega) (by omega)]
        exact hR.1 i hi
      · rw [rd_nk (by omega), yo _ _ (by omega) (by omega)]
        exact hR.2.1 j hj
      · rw [rd_eq]
      · have hi : i < pre.length := by
          apply Classical.byContradiction
          intro q
          rw [List.getElem?_eq_none (by omega)] at he
          cases he
        obtain ⟨y1, y2⟩ := hR.2.2.2 i q e (by rw [List.getElem?_append_left hi]; exact he)
        rw [rd_nk (by omega), yo _ _ (by omega) (by omega)]
        exact ⟨y1, fun j hj => by rw [rd_nk (by omega), yo _ _ (by omega) (by omega)]; exact y2 j hj⟩
      · rw [rd_nf (by omega), hY, sp_cp1, if_neg (by omega)]
        try dsimp only
        rw [hX, rd_nf (by omega), rd_eq]
      · rw [rd_nf (by omega), hY, sp_cp1, if_neg (by omega)]
        try dsimp only
        rw [hX, rd_eq]
      · rw [rd_nk (by omega), hY, sp_cp1, if_pos ⟨rfl, by omega, by omega⟩]
        try dsimp only
        rw [xo _ _ (by omega), show wd * pre.length + (j - 0) = wd * pre.length + j from by omega]
        exact u2 j hj
    · have z6 : z.1 ≠ 6 := by
        rcases ins with q | q | q | q | q | q | q <;> omega
      have ec : cut P (y :: rest) = (y :: (cut P rest).1, (cut P rest).2) := if_neg o5
      rw [if_pos z6]
      try dsimp only
      rw [sp_ck (by omega), ec]
      have e3 : ((pre ++ [y]).length : Int) = (pre.length : Int) + 1 := by rw [List.length_append]; rfl
      rw [e2] at hR
      obtain ⟨S', i1, i2, i3, i4⟩ := ih (pre ++ [y]) S q' hF hR (fun a ha => hm a (List.mem_cons_of_mem _ ha)) (by rw [List.length_append]; show pre.length + 1 + rest.length ≤ 208; omega) (by omega)
      refine ⟨S', by rw [← e3]; exact i1, i2, ?_, i4⟩
      show TRc k l s wd n stamp A c (pre ++ y :: (cut P rest).1) S'
      rw [show pre ++ y :: (cut P rest).1 = (pre ++ [y]) ++ (cut P rest).1 from by rw [List.append_assoc]; rfl]
      exact i3
theorem cut_mem {ls : LFs} {y : Nat × CPs} (h : y ∈ (cut P ls).1) : y ∈ ls ∧ (P y.1).1 ≠ 5 := by
  induction ls with
  | nil => cases h
  | cons a ls ih =>
    by_cases o5 : (P a.1).1 = 5
    · rw [show cut P (a :: ls) = ([], some a.2) from if_pos o5] at h
      cases h
    · rw [show cut P (a :: ls) = (a :: (cut P ls).1, (cut P ls).2) from if_neg o5] at h
      rcases List.mem_cons.mp h with q | q
      · rw [q]
        exact ⟨List.mem_cons_self .., o5⟩
      · exact ⟨List.mem_cons_of_mem _ (ih q).1, (ih q).2⟩
theorem flt_mem {ls : LFs} {y : Nat × CPs} (h : y ∈ flt lv ls) : y ∈ ls := by
  induction ls with
  | nil => exact h
  | cons a l il =>
    unfold flt at h
    by_cases z : lv a.1 = true
    · rw [if_pos z] at h
      rcases List.mem_cons.mp h with w | w
      · rw [w]
        exact List.mem_cons_self ..
      · exact List.mem_cons_of_mem _ (il w)
    · rw [if_neg z] at h
      exact List.mem_cons_of_mem _ (il h)
theorem cut_le {ls : LFs} : (cut P ls).1.length ≤ ls.length := by
  induction ls with
  | nil => exact Nat.le_refl _
  | cons a ls ih =>
    by_cases o5 : (P a.1).1 = 5
    · rw [show cut P (a :: ls) = ([], some a.2) from if_pos o5]
      exact Nat.zero_le _
    · rw [show cut P (a :: ls) = (a :: (cut P ls).1, (cut P ls).2) from if_neg o5, List.length_cons, List.length_cons]
      omega
/-- threads settle; a new one may start -/
theorem cl_settle {rs : LFs} {ms : Bool} {a2 : Int} (hT : TST Q k g w l s wd n x L P E lv stamp S0) (h7 : ev_aln (k + 7) = wd) (hF : FTc k l s S0 S) (hR : TRc k l s wd n stamp (dfsL P E x n rs (fun _ => false)).2 c (flt lv (dfsL P E x n rs (fun _ => false)).1) S) (hrs : ∀ y, y ∈ rs → y.1 < n) (h0 : 0 < n) (hms : ms = true ↔ (a2 ≠ 0 ∧ S.1 k 14 = 0)) (hQ : 6000 ≤ Q) : ∃ S' c', jm_160 Q k (w + 1) (x : Int) a2 S = some ((), S') ∧ HTc k l s S S' ∧ TRc k l s wd n stamp (dfsL P E x n (rts x rs ms) (fun _ => false)).2 c' (cut P (flt lv (dfsL P E x n (rts x rs ms) (fun _ => false)).1)).1 S' ∧ (match (cut P (flt lv (dfsL P E x n (rts x rs ms) (fun _ => false)).1)).2 with
    | none => S'.1 k 14 = S.1 k 14 ∧ S'.1 k 13 = S.1 k 13 ∧ ∀ j, j < wd → S'.1 (k + 7) j = S.1 (k + 7) j
    | some e => S'.1 k 14 = 1 ∧ S'.1 k 13 = (x : Int) ∧ ∀ j, j < wd → S'.1 (k + 7) j = e j) := by
  have hT0 := hT
  obtain ⟨_, _, _, n208⟩ := TST_n hT0 h0
  obtain ⟨⟨⟨a3, a4, a5, a6, al, as⟩, ag⟩, ⟨r1, r2, r3⟩, ⟨e0, e7⟩, ⟨hpl, hn⟩, hI, hl, hE, ⟨k1, k2, k3, k4⟩, hw⟩ := hT
  -- the scan behind
  have scan : ∀ ms c' S1, FTc k l s S0 S1 → TRc k l s wd n stamp (dfsL P E x n (rts x rs ms) (fun _ => false)).2 c' (flt lv (dfsL P E x n (rts x rs ms) (fun _ => false)).1) S1 → ∃ S', jl_160_36 Q k (x : Int) Q 0 S1 = some ((), S') ∧ HTc k l s S1 S' ∧ TRc k l s wd n stamp (dfsL P E x n (rts x rs ms) (fun _ => false)).2 c' (cut P (flt lv (dfsL P E x n (rts x rs ms) (fun _ => false)).1)).1 S' ∧ (match (cut P (flt lv (dfsL P E x n (rts x rs ms) (fun _ => false)).1)).2 with
      | none => S' = S1
      | some e => S'.1 k 14 = 1 ∧ S'.1 k 13 = (x : Int) ∧ ∀ j, j < wd → S'.1 (k + 7) j = e j) := fun ms c' S1 F1 R1 => by
    obtain ⟨m1, m2⟩ := dfsL_cnf (E := E) (k := x) hw (rts x rs ms) (fun _ => false) (rts_n h0 hrs)
    have fl := flt_le (lv := lv) (ls := (dfsL P E x n (rts x rs ms) (fun _ => false)).1)
    have cn := cnf_le (A := fun _ => false) n
    exact cl_scan (x := x) hpl hn hI ⟨r1, r2, r3⟩ e0 ⟨al, as, h7⟩ ag k1 k2 k3 k4 (flt lv (dfsL P E x n (rts x rs ms) (fun _ => false)).1) [] S1 Q (HTc_f F1) R1 (fun y hy => m2 y.1 y.2 (flt_mem hy)) (by show 0 + _ ≤ 208; omega) (by omega)
  have fin : ∀ {S1 S' : ev_St} {o : Option CPs}, (S1.1 k 14 = S.1 k 14 ∧ S1.1 k 13 = S.1 k 13 ∧ ∀ j, j < wd → S1.1 (k + 7) j = S.1 (k + 7) j) → (match o with
      | none => S' = S1
      | some e => S'.1 k 14 = 1 ∧ S'.1 k 13 = (x : Int) ∧ ∀ j, j < wd → S'.1 (k + 7) j = e j) → (match o with
      | none => S'.1 k 14 = S.1 k 14 ∧ S'.1 k 13 = S.1 k 13 ∧ ∀ j, j < wd → S'.1 (k + 7) j = S.1 (k + 7) j
      | some e => S'.1 k 14 = 1 ∧ S'.1 k 13 = (x : Int) ∧ ∀ j, j < wd → S'.1 (k + 7) j = e j) := fun {S1 S' o} h1 h2 => by
    cases o with
    | none =>
      have h2' : S' = S1 := h2
      rw [h2']
      exact h1
    | some e => exact h2
  by_cases hm : ms = true
  · obtain ⟨q1, q2⟩ := hms.mp hm
    obtain ⟨S1, f1, f2, f3, f4⟩ := sp_363 (Q := Q) (S := S) (a := k + 6) (v := -1) a6 (by rcases k4 with z | z <;> omega) (by rcases k4 with z | z <;> omega)
    obtain ⟨X, hX⟩ : ∃ X, X = ev_pI S1 (k + 6) 0 (x : Int) := ⟨_, rfl⟩
    have xo : ∀ c i, c ≠ k + 6 → X.1 c i = S.1 c i := fun c i h => by
      rw [hX, sp_pI1, if_neg (fun z => h z.1)]
      exact f3 c i (fun z => h z.1)
    have FX : FTc k l s S0 X := FTc_t hF ⟨fun c i y1 y2 y3 y4 => xo c i (by omega), by rw [hX]; exact f4⟩
    have RX' : TRc k l s wd n stamp (dfsL P E x n rs (fun _ => false)).2 (c0 x) (flt lv (dfsL P E x n rs (fun _ => false)).1) X := by
      refine ⟨fun i hi => by rw [xo _ _ (by omega)]; exact hR.1 i hi, fun j hj => ?_, by rw [xo _ _ (by omega)]; exact hR.2.2.1, fun i q e he => ?_⟩
      · unfold c0
        by_cases e : j = 0
        · rw [if_pos e]
          try dsimp only
          rw [e, hX, rd_eq]
        · rw [if_neg e]
          try dsimp only
          rw [hX, rd_nf e]
          exact f2 j hj
      · obtain ⟨y1, y2⟩ := hR.2.2.2 i q e he
        rw [xo _ _ (by omega)]
        exact ⟨y1, fun j hj => by rw [xo _ _ (by omega)]; exact y2 j hj⟩
    obtain ⟨m1, m2⟩ := dfsL_cnf (E := E) (k := x) hw rs (fun _ => false) hrs
    have fl := flt_le (lv := lv) (ls := (dfsL P E x n rs (fun _ => false)).1)
    have cn := cnf_le (A := fun _ => false) n
    obtain ⟨S2, g1, g2, g3⟩ := cl_add hT0 FX RX' h0 (by omega) (by omega)
    have er : rts x rs ms = rs ++ [(0, c0 x)] := if_pos hm
    have ed : dfsL P E x n (rts x rs ms) (fun _ => false) = ((dfsL P E x n rs (fun _ => false)).1 ++ (dfs P E x n 0 (c0 x) (dfsL P E x n rs (fun _ => false)).2).1, (dfs P E x n 0 (c0 x) (dfsL P E x n rs (fun _ => false)).2).2) := by
      rw [er, dfsL_app]
      show (_ ++ (_ ++ []), _) = _
      rw [List.append_nil]
      rfl
    obtain ⟨S', s1, s2, s3, s4⟩ := scan ms (c0 x) S2 g2 (by
      rw [ed]
      show TRc k l s wd n stamp _ (c0 x) (flt lv (_ ++ _)) S2
      rw [flt_app]
      exact g3)
    -- what had been found stands until the scan
    have keep : S2.1 k 14 = S.1 k 14 ∧ S2.1 k 13 = S.1 k 13 ∧ ∀ j, j < wd → S2.1 (k + 7) j = S.1 (k + 7) j := ⟨(g2.1 k 14 (by omega) (by omega) (by omega) (by omega)).trans (hF.1 k 14 (by omega) (by omega) (by omega) (by omega)).symm, (g2.1 k 13 (by omega) (by omega) (by omega) (by omega)).trans (hF.1 k 13 (by omega) (by omega) (by omega) (by omega)).symm, fun j _ => (g2.1 (k + 7) j (by omega) (by omega) (by omega) (by omega)).trans (hF.1 (k + 7) j (by omega) (by omega) (by omega) (by omega)).symm⟩
    refine ⟨S', c0 x, ?_, HTc_t (S1 := S2) ⟨fun c i y1 y2 y3 y4 => (g2.1 c i (by omega) (by omega) y3 y4).trans (hF.1 c i (by omega) (by omega) y3 y4).symm, g2.2.trans hF.2.symm⟩ s2, s3, fin keep s4⟩
    unfold jm_160
    rw [sp_jn, if_neg q1]
    try dsimp only
    rw [sp_b, q2, if_neg (fun z => z rfl)]
    try dsimp only
    rw [f1, sp_bd, a6, sp_if (by rcases k4 with z | z <;> omega), show Int.toNat (0 : Int) = 0 from rfl, sp_b, ← hX, show ((0 : Int)) = ((0 : Nat) : Int) from rfl, g1, sp_bd]
    exact s1
  · have er : rts x rs ms = rs := if_neg hm
    obtain ⟨S', s1, s2, s3, s4⟩ := scan ms c S hF (by rw [er]; exact hR)
    refine ⟨S', c, ?_, s2, s3, fin ⟨rfl, rfl, fun _ _ => rfl⟩ s4⟩
    unfold jm_160
    rw [sp_jn]
    by_cases z : a2 = 0
    · rw [if_pos z]
      exact s1
    · rw [if_neg z]
      try dsimp only
      rw [sp_b, if_pos (fun y => hm (hms.mpr ⟨z, y⟩))]
      exact s1
end OQT
