/-! FACTS: the class's literal -/
section FACTL
variable {Q k b e N M m t i : Nat} {S U V : ev_St} {β : Type}
/-- how many bits a long has, as the class counts them -/
def bc1 (a0 : Int64) : Int64 := a0 - (ev_lushr a0 1 &&& 6148914691236517205)
def bc2 (y3 : Int64) : Int64 := (y3 &&& 3689348814741910323) + (ev_lushr y3 2 &&& 3689348814741910323)
def bc3 (y7 : Int64) : Int64 := (y7 + ev_lushr y7 4) &&& 1085102592571150095
def bc4 (y10 : Int64) : Int64 := (y10 + ev_lushr y10 8) + ev_lushr (y10 + ev_lushr y10 8) 16
def bcC (a0 : Int64) : Int := ev_iand (ev_l2i (bc4 (bc3 (bc2 (bc1 a0))) + ev_lushr (bc4 (bc3 (bc2 (bc1 a0)))) 32)) 127
theorem sp_362 {x : Int64} : jm_362 Q x U = some (bcC x, U) := rfl
theorem iand127 (a : Int) : 0 ≤ ev_iand a 127 ∧ ev_iand a 127 ≤ 127 := by
  have h : (Int32.ofInt a &&& Int32.ofInt 127).toBitVec.toNat ≤ 127 := by
    rw [Int32.toBitVec_and, BitVec.toNat_and]
    exact Nat.and_le_right
  have e : ev_iand a 127 = ((Int32.ofInt a &&& Int32.ofInt 127).toBitVec.toNat : Int) := by
    show (Int32.ofInt a &&& Int32.ofInt 127).toBitVec.toInt = _
    exact BitVec.toInt_eq_toNat_of_lt (by omega)
  omega
theorem bcC_b (x : Int64) : 0 ≤ bcC x ∧ bcC x ≤ 127 := iand127 _
/-- a node's number -/
abbrev litV (M : Nat) (a : Int) : Prop := 0 ≤ a ∧ a < (M : Int) ∧ a < 400
def rowC (k M : Nat) (S : ev_St) (a : Int) : Int := if litV M a then S.1 (k + 4) a.toNat else -1
def onlyC (k M : Nat) (S : ev_St) (a : Int) : Int := if litV M (rowC k M S a) then (if 0 ≤ S.1 (k + 5) (rowC k M S a).toNat then -1 else rowC k M S a) else -1
theorem sp_65 {a : Int} (hk : ev_isOb k 5 = true) (h11 : U.1 k 11 = (M : Int)) : jm_65 Q k a U = some (onlyC k M U a, U) := by
  obtain ⟨l1, l2, l3, l4, l5, _⟩ := al_Pt hk
  have tl : ∀ r : Int, (ev_bd (jm_59 Q k r U) fun x8 s7 => if x8 = 0 then (some ((-1 : Int), s7)) else (ev_if ((0 : Int) ≤ r ∧ r < (ev_aln ((k + 5)) : Int)) (ev_b (s7.1 ((k + 5)) (Int.toNat r)) fun x10 => if 0 ≤ x10 then (some ((-1 : Int), s7)) else (some (r, s7))))) = some (if litV M r then (if 0 ≤ U.1 (k + 5) r.toNat then -1 else r) else -1, U) := fun r => by
    rw [sp_59, sp_bd, h11]
    by_cases c : litV M r
    · rw [if_neg (show ¬ ((if 0 ≤ r ∧ r < (M : Int) ∧ r < 400 then (1 : Int) else 0) = 0) by rw [if_pos c]; decide), sp_if (by rw [l5]; omega), sp_b, if_pos c]
      by_cases d : 0 ≤ U.1 (k + 5) r.toNat
      · rw [if_pos d, if_pos d]
      · rw [if_neg d, if_neg d]
    · rw [if_pos (show (if 0 ≤ r ∧ r < (M : Int) ∧ r < 400 then (1 : Int) else 0) = 0 from if_neg c), if_neg c]
  unfold jm_65 onlyC
  rw [sp_59, sp_bd, h11, sp_jn]
  by_cases c : litV M a
  · rw [if_neg (show ¬ ((if 0 ≤ a ∧ a < (M : Int) ∧ a < 400 then (1 : Int) else 0) = 0) by rw [if_pos c]; decide), sp_if (by rw [l4]; omega), sp_b]
    have e : rowC k M U a = U.1 (k + 4) a.toNat := if_pos c
    rw [e]
    exact tl _
  · rw [if_pos (show (if 0 ≤ a ∧ a < (M : Int) ∧ a < 400 then (1 : Int) else 0) = 0 from if_neg c)]
    have e : rowC k M U a = -1 := if_neg c
    rw [e]
    exact tl _
abbrev oneC (k : Nat) (S : ev_St) (a : Int) : Prop := S.1 (k + 1) a.toNat = 0 ∧ bcC (S.2.1 (k + 8) a.toNat) + bcC (S.2.1 (k + 9) a.toNat) = 1
theorem sp_66 {a : Int} (hk : ev_isOb k 5 = true) (h11 : U.1 k 11 = (M : Int)) (hv : litV M a) : jm_66 Q k a U = some (if oneC k U a then 1 else 0, U) := by
  obtain ⟨l1, l2, l3, l4, l5, _, _, l8, l9⟩ := al_Pt hk
  unfold jm_66
  rw [sp_59, sp_bd, h11, if_neg (show ¬ ((if 0 ≤ a ∧ a < (M : Int) ∧ a < 400 then (1 : Int) else 0) = 0) by rw [if_pos hv]; decide), sp_if (by rw [l1]; omega), sp_b]
  by_cases z : U.1 (k + 1) a.toNat = 0
  · have b1 := bcC_b (U.2.1 (k + 8) a.toNat)
    have b2 := bcC_b (U.2.1 (k + 9) a.toNat)
    rw [if_neg (fun y => y z), sp_if (by rw [l8]; omega), sp_b, sp_362, sp_bd, sp_if (by rw [l9]; omega), sp_b, sp_362, sp_bd, sp_ck (by omega)]
    by_cases y : bcC (U.2.1 (k + 8) a.toNat) + bcC (U.2.1 (k + 9) a.toNat) = 1
    · rw [if_neg (fun x => x y), if_pos ⟨z, y⟩]
    · rw [if_pos y, if_neg (fun x => y x.2)]
  · rw [if_pos z, if_neg (fun x => z x.1)]
/-- a text's signs -/
def RLt (U : ev_St) (c : Nat) (l : List Int) : Prop := U.1 c 1 = (l.length : Int) ∧ l.length ≤ 160 ∧ ∀ i, i < l.length → U.1 (c + 1) i = l.getD i 0
/-- nothing but the two texts is changed -/
def FRt (k : Nat) (S U : ev_St) : Prop := (∀ x g, ¬ ((x = 230 ∧ g = 1) ∨ x = 231 ∨ (x = k + 18 ∧ g = 1) ∨ x = k + 19) → U.1 x g = S.1 x g) ∧ U.2 = S.2
theorem FRt_t (h : FRt k S U) (h2 : FRt k U V) : FRt k S V := ⟨fun x g z => (h2.1 x g z).trans (h.1 x g z), h2.2.trans h.2⟩
def addR (run : List Int) (c : Int) : List Int := if run.length < 160 then run ++ [c] else run
def lngr (run best : List Int) : List Int := if best.length < run.length then run else best
theorem ob230 : ev_isOb 230 10 = true := by decide +kernel
theorem sp_152R {c : Int} {run best : List Int} (hkr : 232 ≤ k) (h : RLt U 230 run) (h2 : RLt U (k + 18) best) : ∃ V, jm_152 Q 230 c U = some ((), V) ∧ RLt V 230 (addR run c) ∧ RLt V (k + 18) best ∧ FRt k U V := by
  have l := sp_len_text ob230
  obtain ⟨h1, hl, hg⟩ := h
  unfold addR
  by_cases z : run.length < 160
  · refine ⟨ev_pI (ev_pI U 231 run.length c) 230 1 ((run.length : Int) + 1), ?_, ?_, ?_, fun x g y => ?_, rfl⟩
    · unfold jm_152
      rw [sp_b, h1, if_neg (by omega), sp_b, if_neg (by omega), sp_b, sp_if (by rw [l]; omega), sp_b, Int.toNat_natCast, sp_b, rd_nk (by omega), h1, sp_ck (by omega), sp_b]
    · rw [if_pos z]
      refine ⟨by rw [rd_eq, List.length_append]; rfl, by rw [List.length_append]; show run.length + 1 ≤ 160; omega, fun i hi => ?_⟩
      rw [List.length_append] at hi
      have hi' : i < run.length + 1 := hi
      rw [rd_nk (by omega)]
      by_cases e : i = run.length
      · rw [e, show (230 + 1 : Nat) = 231 from rfl, rd_eq]
        simp [List.getD]
      · rw [show (230 + 1 : Nat) = 231 from rfl, rd_nf e, hg i (by omega)]
        rw [List.getD_eq_getElem?_getD, List.getD_eq_getElem?_getD, List.getElem?_append_left (by omega)]
    · obtain ⟨a, b, c⟩ := h2
      exact ⟨by rw [rd_nk (by omega), rd_nk (by omega)]; exact a, b, fun i hi => by rw [rd_nk (by omega), rd_nk (by omega)]; exact c i hi⟩
    · rw [sp_pI1, if_neg (by omega), sp_pI1, if_neg (by omega)]
  · refine ⟨U, ?_, ?_, h2, fun _ _ _ => rfl, rfl⟩
    · unfold jm_152
      rw [sp_b, h1, if_neg (by omega), sp_b, if_pos (by omega)]
    · rw [if_neg z]
      exact ⟨h1, hl, hg⟩
theorem sp_41R {run best : List Int} (hkr : 232 ≤ k) (ho : ev_isOb (k + 18) 10 = true) (hr : U.2.2.1 221 9 = k + 1) (h : RLt U 230 run) (h2 : RLt U (k + 18) best) : ∃ V, jm_41 Q U = some ((), V) ∧ RLt V 230 [] ∧ RLt V (k + 18) (lngr run best) ∧ FRt k U V := by
  obtain ⟨a1, a2, a3⟩ := h
  obtain ⟨b1, b2, b3⟩ := h2
  unfold lngr
  by_cases z : best.length < run.length
  · refine ⟨ev_pI (ev_pI (ev_cpI U 231 (k + 18 + 1) 0 0 160) (k + 18) 1 (U.1 230 1)) 230 1 0, ?_, ⟨rd_eq, by decide, fun i hi => absurd hi (Nat.not_lt_zero i)⟩, ?_, fun x g y => ?_, rfl⟩
    · unfold jm_41
      rw [sp_b, a1, sp_b, hr, sp_if (by omega), show k + 1 - 1 = k from rfl, sp_b, b1, if_neg (by omega), sp_b, sp_if (by omega), show k + 1 - 1 = k from rfl, sp_153 ho ob230 (by omega), sp_bd, sp_b, a1]
    · rw [if_pos z]
      refine ⟨by rw [rd_nk (by omega), rd_eq, a1], a2, fun i hi => ?_⟩
      rw [rd_nk (by omega), rd_nk (by omega), sp_cp1, if_pos ⟨rfl, by omega, by omega⟩, show 0 + (i - 0) = i from by omega]
      exact a3 i hi
    · rw [sp_pI1, if_neg (by omega), sp_pI1, if_neg (by omega), sp_cp1, if_neg (by omega)]
  · refine ⟨ev_pI U 230 1 0, ?_, ⟨rd_eq, by decide, fun i hi => absurd hi (Nat.not_lt_zero i)⟩, ?_, fun x g y => by rw [sp_pI1, if_neg (by omega)], rfl⟩
    · unfold jm_41
      rw [sp_b, a1, sp_b, hr, sp_if (by omega), show k + 1 - 1 = k from rfl, sp_b, b1, if_pos (by omega), sp_b]
    · rw [if_neg z]
      exact ⟨by rw [rd_nk (by omega)]; exact b1, b2, fun i hi => by rw [rd_nk (by omega)]; exact b3 i hi⟩
/-- is the code a node's that is entered and opened -/
abbrev opC (k M : Nat) (S : ev_St) (c : Int) : Prop := (17 ≤ S.1 (k + 1) (ev_ishr c 2).toNat ∧ S.1 (k + 1) (ev_ishr c 2).toNat ≤ 19) ∧ 0 ≤ onlyC k M S (ev_ishr c 2)
def nxC (k M : Nat) (S : ev_St) (c : Int) : Int := if ev_iand c 3 = 0 ∧ opC k M S c then S.1 (k + 6) (ev_ishr c 2).toNat else S.1 (k + 7) (ev_ishr c 2).toNat
def litF (k M : Nat) (S : ev_St) : Nat → Int → List Int → List Int → List Int
  | 0, _, run, best => lngr run best
  | n + 1, c, run, best => if litV M (ev_ishr c 2) then (if oneC k S (ev_ishr c 2) then litF k M S n (nxC k M S c) (addR run (lowC (S.2.1 (k + 8) (ev_ishr c 2).toNat) (S.2.1 (k + 9) (ev_ishr c 2).toNat) 128 0)) best else if ev_iand c 3 = 0 ∧ ¬ opC k M S c then litF k M S n (nxC k M S c) [] (lngr run best) else litF k M S n (nxC k M S c) run best) else lngr run best
end FACTL
