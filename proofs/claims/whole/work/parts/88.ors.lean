/-! STREAMS: what is kept of them, and what the reference tells -/
section ORS
variable {Q s p len N M B B2 n : Nat} {φ ψ own up lo : Nat → Nat} {S S1 S2 T U V : ev_St} {L L2 : List INS} {an : Bool}
noncomputable section
def tQ (p : Nat) (U : ev_St) (i : Nat) : T3 := if i < 210 then tP p U i else (0, 0, 0)
theorem tQ_eq {i : Nat} (h : i < 210) : tQ p U i = tP p U i := if_pos h
theorem tQ_c (h : ∀ c i, 662 ≤ c → c ≤ 664 → 210 * p ≤ i → i < 210 * p + 210 → U.1 c i = S.1 c i) : tQ p U = tQ p S := by
  funext i
  unfold tQ
  split
  · unfold tP
    rw [h 662 _ (by omega) (by omega) (by omega) (by omega), h 663 _ (by omega) (by omega) (by omega) (by omega), h 664 _ (by omega) (by omega) (by omega) (by omega)]
  · rfl
theorem lvB_c {g : Nat} (h : ∀ i, U.1 (g + 5) i = S.1 (g + 5) i) : lvB g U = lvB g S := by
  funext i
  unfold lvB
  rw [h]
theorem at_c2 {w : Nat} (h1 : U.1 w 1 = S.1 w 1) (h2 : ∀ i, U.1 (w + 1) i = S.1 (w + 1) i) (x : Int) : sp_at U w x = sp_at S w x := by
  unfold sp_at
  rw [h1, h2]
theorem sX_c {w : Nat} (h : ∀ x : Int, sp_at U w x = sp_at S w x) : sX U w len L = sX S w len L := by
  have one : ∀ {U S : ev_St}, (∀ x : Int, sp_at U w x = sp_at S w x) → ∀ x i, sX U w len L x i = true → sX S w len L x i = true := fun {U S} h x i q => by
    unfold sX at q ⊢
    have q := (@decide_eq_true_iff _ (Classical.propDecidable _)).mp q
    refine (@decide_eq_true_iff _ (Classical.propDecidable _)).mpr ?_
    rw [← h]
    exact q
  funext x i
  cases e1 : sX U w len L x i with
  | true => exact (one h x i e1).symm
  | false =>
    cases e2 : sX S w len L x i with
    | true => rw [one (fun x => (h x).symm) x i e2] at e1; cases e1
    | false => rfl
theorem sX_u {g w : Nat} (h : PL g S L) (h2 : PL g S L2) : sX U w len L = sX U w len L2 := by
  have one : ∀ {L L2 : List INS}, PL g S L → PL g S L2 → ∀ x i, sX U w len L x i = true → sX U w len L2 x i = true := fun {L L2} h h2 x i q => by
    unfold sX at q ⊢
    obtain ⟨q1, z, q2, q3, q4⟩ := (@decide_eq_true_iff _ (Classical.propDecidable _)).mp q
    refine (@decide_eq_true_iff _ (Classical.propDecidable _)).mpr ⟨q1, ?_⟩
    have le : L.length = L2.length := by
      have := h.1.symm.trans h2.1
      omega
    have li : i < L2.length := by
      apply Classical.byContradiction
      intro y
      rw [List.getElem?_eq_none (by omega)] at q2
      cases q2
    have e2 : L2[i]? = some L2[i] := List.getElem?_eq_getElem li
    obtain ⟨a1, a2, a3⟩ := h.2.2 i z q2
    obtain ⟨b1, b2, b3⟩ := h2.2.2 i _ e2
    have b0 : (L2[i]).1 = 0 := by omega
    refine ⟨_, e2, b0, ?_⟩
    rw [← (b3 b0).1, ← (b3 b0).2, (a3 q3).1, (a3 q3).2]
    exact q4
  funext x i
  cases e1 : sX U w len L x i with
  | true => exact (one h h2 x i e1).symm
  | false =>
    cases e2 : sX U w len L2 x i with
    | true => rw [one h2 h x i e2] at e1; cases e1
    | false => rfl
/-- what the reference tells -/
theorem r_tell (hA : STA (313 + 20 * p) p N M φ ψ own up lo U) (hP : PRGU (313 + 20 * p) p N φ U L) (h5 : U.1 665 p + 1 = (L.length : Int)) (hn : ∀ (i : Nat) (z : INS), L[i]? = some z → z.1 ≠ 1) (hZ : sp_ZR U) (h9 : U.1 639 p ≠ 0) (hs : s < 4) (h18 : U.1 718 s = (p : Int)) (h21 : U.1 721 s = (len : Int)) (hl : U.1 (569 + 13 * s + 1) 1 = (len : Int)) (h80 : len ≤ 80) (hx : ∀ j, j < len → U.1 722 (80 * s + j) = U.1 (569 + 13 * s + 1 + 1) j ∧ sp_sign (U.1 722 (80 * s + j)) = 1) (han : an = true ↔ U.1 719 s ≠ 0) (hQ : 1000 ≤ Q) : bdO (stm (tQ p U) L.length (sX U (569 + 13 * s + 1) len L) (lvB (313 + 20 * p + 12) U) an len).2 ∧ ∃ V, jm_319 Q (s : Int) U = some (if U.1 720 s = 0 ∧ (stm (tQ p U) L.length (sX U (569 + 13 * s + 1) len L) (lvB (313 + 20 * p + 12) U) an len).1 ≠ [] then -5 else bvO (stm (tQ p U) L.length (sX U (569 + 13 * s + 1) len L) (lvB (313 + 20 * p + 12) U) an len).2, V) ∧ (∀ c i, ¬ (c = 621 ∧ i = 68) → ¬ (669 ≤ c ∧ c ≤ 670) → ¬ (673 ≤ c ∧ c ≤ 677) → V.1 c i = U.1 c i) ∧ V.2 = U.2 := by
  obtain ⟨hw, l0, l201, _⟩ := PU_wf hP
  have hp := hA.2.2.1
  have nN := (sa_num hA).1.2.1
  have eB := PU_enB hP nN hp hZ h9 h5
  have tq : ∀ i, i < L.length → tQ p U i = tP p U i := fun i hi => tQ_eq (by omega)
  have wq : wfP (tQ p U) L.length := fun i hi => by
    rw [tq i hi]
    exact hw i hi
  have lq : lvP (tQ p U) L.length (lvB (313 + 20 * p + 12) U) := fun i hi => by
    rw [tq i hi]
    exact PU_lv hP i hi
  have xq : lvX (tQ p U) L.length (sX U (569 + 13 * s + 1) len L) (lvB (313 + 20 * p + 12) U) := fun x i hi h0 => by
    rw [tq i hi] at h0
    exact PU_lvX hP x i hi h0
  have rs : RSq7 p s L.length len (tQ p U) (sX U (569 + 13 * s + 1) len L) U := by
    refine ⟨fun i hi => ?_, ⟨wq, l0, by omega, hp, hs⟩, fun i hi => ?_, ⟨h18, h21, h80⟩, fun j hj => (hx j hj).2, fun i hi h0 => ?_, fun x i hx2 hi h0 => ?_⟩
    · rw [tq i hi]
      exact ⟨rfl, rfl, rfl⟩
    · obtain ⟨z, z1, z2, _⟩ := PU_at hP hi
      have := hn i z z1
      rw [tq i hi]
      rcases z2 with y | y | y | y | y | y | y <;> omega
    · rw [tq i hi] at h0 ⊢
      exact (eB i (by omega)).1 h0
    · rw [tq i hi] at h0 ⊢
      obtain ⟨z, z1, z2, z3, _⟩ := PU_at hP hi
      have hz : z.1 = 0 := by
        rcases z2 with y | y | y | y | y | y | y <;> omega
      rw [sX_iff z1 hz]
      by_cases lx : x < len
      · have sg := (hx x lx).2
        have ea : sp_at U (569 + 13 * s + 1) (x : Int) = U.1 722 (80 * s + x) := by
          unfold sp_at
          rw [if_pos (by omega), Int.toNat_natCast]
          exact (hx x lx).1.symm
        rcases z3 with ⟨_, _, m, y3, y4, y5, y6⟩ | ⟨y1, _⟩ | ⟨y1, _⟩ | ⟨y1, _⟩ | ⟨y1, _⟩ | ⟨y1, _⟩ | ⟨y1, _⟩
        · have m0 : m ≠ 0 := fun e => by
            have q := (sa_num hA).2.2.2.1
            rw [e, Nat.add_zero] at y4
            omega
          obtain ⟨b1, b2⟩ := (sa_kd hA y3 m0).1 y4
          rw [ea, y6, Int.toNat_natCast, y5]
          show (_ ∧ cs _ _ _ ≠ 0) ↔ (_ ∧ rs _ _ _ ≠ 0)
          rw [SB_cs b1 sg]
        · omega
        · omega
        · omega
        · omega
        · omega
        · omega
      · exact ⟨fun y => absurd y.1 lx, fun y => absurd y.1 lx⟩
  have la : ∀ a : Nat, (a : Int) ≤ U.1 665 p ↔ a < L.length := fun a => by omega
  obtain ⟨W, u1, u2, u3, u4, u5⟩ := sp_318 (Q := Q) rs hQ han
  obtain ⟨V, v1, v2⟩ := sp_319 (Q := Q) (lv := lvB (313 + 20 * p + 12) U) rs hQ han eB (by omega) (fun a _ ha hq => en_c hA hP ((la a).mp ha) hq) (fun G hG j hj hv => en_m hA hP hn (fun i hi hq => hG i (by omega) ((la i).mpr hi) hq) hj hv)
  have lv := stm_live (X := sX U (569 + 13 * s + 1) len L) (an := an) wq l0 lq xq len
  have e1 := congrArg Prod.fst lv
  have e2 := congrArg Prod.snd lv
  dsimp only at e1 e2
  rw [e1, e2]
  exact ⟨u5, V, v1, v2⟩
/-- a stream that is there -/
def StL (s B : Nat) (S : ev_St) : Prop := ∃ (p len : Nat) (L : List INS) (an : Bool), ((p : Int) < S.1 0 5 ∧ S.1 718 s = (p : Int) ∧ S.1 (313 + 20 * p) 15 ≠ 0) ∧ (S.1 (569 + 13 * s) 2 = S.1 719 s ∧ (an = true ↔ S.1 719 s ≠ 0)) ∧ S.1 (569 + 13 * s) 3 = S.1 720 s ∧ (S.1 721 s = (len : Int) ∧ S.1 (569 + 13 * s + 1) 1 = (len : Int) ∧ len ≤ 80) ∧ (∀ j, j < len → S.1 722 (80 * s + j) = S.1 (569 + 13 * s + 1 + 1) j ∧ sp_sign (S.1 722 (80 * s + j)) = 1) ∧ PL (313 + 20 * p + 12) S L ∧ SSc (569 + 13 * s + 3) (313 + 20 * p + 12) 1 L.length (tQ p S) (sX S (569 + 13 * s + 1) len L) (lvB (313 + 20 * p + 12) S) an B len S
/-- one that is not begun -/
def StU (s : Nat) (S : ev_St) : Prop := (S.2.2.1 (569 + 13 * s + 3) 2 = 569 + 13 * s + 3 + 1 + 1 ∧ S.2.2.1 (569 + 13 * s + 3) 3 = 569 + 13 * s + 3 + 2 + 1 ∧ S.2.2.1 (569 + 13 * s + 3) 4 = 569 + 13 * s + 3 + 8 + 1 ∧ S.2.2.1 (569 + 13 * s + 3) 5 = 569 + 13 * s + 3 + 9 + 1) ∧ (S.1 (569 + 13 * s + 3) 0 = 1 ∧ S.1 (569 + 13 * s + 3) 7 = 0) ∧ (∀ i, i < 208 → S.1 (569 + 13 * s + 3 + 3) i = 0) ∧ S.1 (569 + 13 * s + 1) 1 = 0 ∧ S.1 (569 + 13 * s) 3 = 0 ∧ S.1 720 s = 0 ∧ S.1 721 s = 0
def sp_ST (B : Nat) (S : ev_St) : Prop := (0 ≤ S.1 0 18 ∧ S.1 0 18 ≤ 4 ∧ S.1 621 139 = S.1 0 18) ∧ (∀ s : Nat, s < 4 → (s : Int) < S.1 0 18 → StL s B S) ∧ ∀ s : Nat, s < 4 → S.1 0 18 ≤ (s : Int) → StU s S
theorem StL_c (h : StL s B S) (hb : B ≤ B2) (h0 : S.1 0 5 ≤ S2.1 0 5) (hk : ∀ c g, 569 + 13 * s ≤ c → c ≤ 569 + 13 * s + 12 → ¬ (c = 569 + 13 * s ∧ g = 3) → S2.1 c g = S.1 c g) (h3 : S2.1 (569 + 13 * s) 3 = S2.1 720 s) (hr : ∀ i, S2.2.2.1 (569 + 13 * s + 3) i = S.2.2.1 (569 + 13 * s + 3) i) (h7 : ∀ c, 718 ≤ c → c ≤ 721 → c ≠ 720 → S2.1 c s = S.1 c s) (h8 : ∀ j, j < 80 → S2.1 722 (80 * s + j) = S.1 722 (80 * s + j)) (hp : ∀ p : Nat, (p : Int) < S.1 0 5 → (∀ c g, 313 + 20 * p ≤ c → c ≤ 313 + 20 * p + 19 → S2.1 c g = S.1 c g ∧ S2.2.1 c g = S.2.1 c g) ∧ ∀ c g, 662 ≤ c → c ≤ 664 → 210 * p ≤ g → g < 210 * p + 210 → S2.1 c g = S.1 c g) : StL s B2 S2 := by
  obtain ⟨p, len, L, an, ⟨a1, a2, a3⟩, ⟨b1, b2⟩, c1, ⟨d1, d2, d3⟩, e1, f1, g1⟩ := h
  obtain ⟨p1, p2⟩ := hp p a1
  refine ⟨p, len, L, an, ⟨by omega, by rw [h7 _ (by omega) (by omega) (by omega)]; exact a2, by rw [(p1 _ _ (by omega) (by omega)).1]; exact a3⟩, ⟨by rw [hk _ _ (by omega) (by omega) (by omega), h7 _ (by omega) (by omega) (by omega)]; exact b1, by rw [h7 _ (by omega) (by omega) (by omega)]; exact b2⟩, h3, ⟨by rw [h7 _ (by omega) (by omega) (by omega)]; exact d1, by rw [hk _ _ (by omega) (by omega) (by omega)]; exact d2, d3⟩, fun j hj => by rw [h8 _ (by omega), hk _ _ (by omega) (by omega) (by omega)]; exact e1 j hj, PL_c f1 (fun c i y1 y2 => (p1 c i (by omega) (by omega)).1) (fun c i y1 y2 => (p1 c i (by omega) (by omega)).2), ?_⟩
  rw [tQ_c p2, sX_c (at_c2 (hk _ _ (by omega) (by omega) (by omega)) (fun i => hk _ _ (by omega) (by omega) (by omega))), lvB_c (fun i => (p1 _ i (by omega) (by omega)).1)]
  exact SSc_c g1 hb (fun c i y1 y2 => hk c i (by omega) (by omega) (by omega)) hr
theorem StL_3 (h : StL s B S) : S.1 (569 + 13 * s) 3 = S.1 720 s := by
  obtain ⟨p, len, L, an, _, _, c1, _⟩ := h
  exact c1
theorem StU_c (h : StU s S) (hk : ∀ c g, 569 + 13 * s ≤ c → c ≤ 569 + 13 * s + 12 → S2.1 c g = S.1 c g) (hr : ∀ i, S2.2.2.1 (569 + 13 * s + 3) i = S.2.2.1 (569 + 13 * s + 3) i) (h7 : ∀ c, 718 ≤ c → c ≤ 721 → S2.1 c s = S.1 c s) : StU s S2 := by
  obtain ⟨⟨a1, a2, a3, a4⟩, ⟨b1, b2⟩, c1, d1, e1, f1, g1⟩ := h
  exact ⟨⟨by rw [hr]; exact a1, by rw [hr]; exact a2, by rw [hr]; exact a3, by rw [hr]; exact a4⟩, ⟨by rw [hk _ _ (by omega) (by omega)]; exact b1, by rw [hk _ _ (by omega) (by omega)]; exact b2⟩, fun i hi => by rw [hk _ _ (by omega) (by omega)]; exact c1 i hi, by rw [hk _ _ (by omega) (by omega)]; exact d1, by rw [hk _ _ (by omega) (by omega)]; exact e1, by rw [h7 _ (by omega) (by omega)]; exact f1, by rw [h7 _ (by omega) (by omega)]; exact g1⟩
/-- streams over a frame that leaves them alone -/
theorem ST_c (h : sp_ST B S) (hb : B ≤ B2) (h0 : S.1 0 5 ≤ S2.1 0 5) (hc : S2.1 0 18 = S.1 0 18 ∧ S2.1 621 139 = S.1 621 139) (hk : ∀ c g, 569 ≤ c → c ≤ 620 → S2.1 c g = S.1 c g) (hr : ∀ c i, 569 ≤ c → c ≤ 620 → S2.2.2.1 c i = S.2.2.1 c i) (h7 : ∀ c i, 718 ≤ c → c ≤ 722 → S2.1 c i = S.1 c i) (hp : ∀ p : Nat, (p : Int) < S.1 0 5 → (∀ c g, 313 + 20 * p ≤ c → c ≤ 313 + 20 * p + 19 → S2.1 c g = S.1 c g ∧ S2.2.1 c g = S.2.1 c g) ∧ ∀ c g, 662 ≤ c → c ≤ 664 → 210 * p ≤ g → g < 210 * p + 210 → S2.1 c g = S.1 c g) : sp_ST B2 S2 := by
  obtain ⟨⟨a1, a2, a3⟩, b, c⟩ := h
  refine ⟨⟨by rw [hc.1]; exact a1, by rw [hc.1]; exact a2, by rw [hc.1, hc.2]; exact a3⟩, fun s hs h1 => ?_, fun s hs h1 => ?_⟩
  · rw [hc.1] at h1
    exact StL_c (b s hs h1) hb h0 (fun c g y1 y2 _ => hk c g (by omega) (by omega)) (by rw [hk _ _ (by omega) (by omega), h7 _ _ (by omega) (by omega)]; exact StL_3 (b s hs h1)) (fun i => hr _ _ (by omega) (by omega)) (fun c y1 y2 _ => h7 c _ y1 (by omega)) (fun j _ => h7 _ _ (by omega) (by omega)) hp
  · rw [hc.1] at h1
    exact StU_c (c s hs h1) (fun c g y1 y2 => hk c g (by omega) (by omega)) (fun i => hr _ _ (by omega) (by omega)) (fun c y1 y2 => h7 c _ y1 (by omega))
end
end ORS
