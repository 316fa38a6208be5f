/-! STREAMS: the class's calls -/
section ORR
variable {Q s p len N M B B2 n : Nat} {φ ψ own up lo : Nat → Nat} {S S1 S2 T U V : ev_St} {L : List INS} {P : Nat → T3} {X X2 : Nat → SNs} {lv : SNs} {an : Bool} {c a2 : Int}
theorem al_st : ∀ s, s < 4 → (ev_aln (569 + 13 * s + 3 + 1) = 208 ∧ ev_aln (569 + 13 * s + 3 + 2) = 208 ∧ ev_aln (569 + 13 * s + 3 + 3) = 208 ∧ ev_aln (569 + 13 * s + 3 + 4) = 832 ∧ ev_aln (569 + 13 * s + 3 + 5) = 832 ∧ ev_aln (569 + 13 * s + 3 + 6) = 1 ∧ ev_aln (569 + 13 * s + 3 + 7) = 1 ∧ ev_aln (569 + 13 * s + 3 + 8) = 1 * 208 ∧ ev_aln (569 + 13 * s + 3 + 9) = 1 * 208) ∧ ev_isOb (569 + 13 * s + 1) 10 = true ∧ ev_aln (569 + 13 * s + 1 + 1) = 160 := by decide +kernel
/-- the program of a stream's pattern -/
def PRf (p : Nat) (L : List INS) (P : Nat → T3) (lv : SNs) (S : ev_St) : Prop := p < 12 ∧ PL (313 + 20 * p + 12) S L ∧ 0 < L.length ∧ (∀ i z, L[i]? = some z → insP i z (P i)) ∧ (∀ i, i < L.length → (lv i = true ↔ S.1 (313 + 20 * p + 12 + 5) i ≠ 0)) ∧ wfP P L.length ∧ ∀ (i : Nat) (z : INS), L[i]? = some z → z.1 ≠ 1
theorem PRf_of (hA : STA (313 + 20 * p) p N M φ ψ own up lo S) (hP : PRGU (313 + 20 * p) p N φ S L) (hn : ∀ (i : Nat) (z : INS), L[i]? = some z → z.1 ≠ 1) (h1 : ∀ i, i < L.length → P i = tP p S i) (h2 : ∀ i, i < L.length → (lv i = true ↔ S.1 (313 + 20 * p + 12 + 5) i ≠ 0)) : PRf p L P lv S := by
  obtain ⟨hw, l0, _, _⟩ := PU_wf hP
  refine ⟨hA.2.2.1, hP.1, l0, fun i z hz => ?_, h2, fun i hi => ?_, hn⟩
  · have li : i < L.length := by
      apply Classical.byContradiction
      intro y
      rw [List.getElem?_eq_none (by omega)] at hz
      cases hz
    rw [h1 i li]
    exact (hP.2.2.2 i z hz).1
  · rw [h1 i hi]
    exact hw i hi
theorem PL_c {g : Nat} (h : PL g S L) (h1 : ∀ c i, g ≤ c → c ≤ g + 2 → U.1 c i = S.1 c i) (h2 : ∀ c i, g + 3 ≤ c → c ≤ g + 4 → U.2.1 c i = S.2.1 c i) : PL g U L := ⟨(h1 _ _ (by omega) (by omega)).trans h.1, h.2.1, fun i x hx => by
  obtain ⟨y1, y2, y3⟩ := h.2.2 i x hx
  exact ⟨(h1 _ _ (by omega) (by omega)).trans y1, (h1 _ _ (by omega) (by omega)).trans y2, fun z => ⟨(h2 _ _ (by omega) (by omega)).trans (y3 z).1, (h2 _ _ (by omega) (by omega)).trans (y3 z).2⟩⟩⟩
theorem PRf_c (h : PRf p L P lv S) (h1 : ∀ c i, 325 ≤ c → c ≤ 550 → U.1 c i = S.1 c i) (h2 : ∀ c i, 325 ≤ c → c ≤ 550 → U.2.1 c i = S.2.1 c i) : PRf p L P lv U := by
  obtain ⟨a1, a2, a3, a4, a5, a6⟩ := h
  exact ⟨a1, PL_c a2 (fun c i y1 y2 => h1 c i (by omega) (by omega)) (fun c i y1 y2 => h2 c i (by omega) (by omega)), a3, a4, fun i hi => by rw [h1 _ _ (by omega) (by omega)]; exact a5 i hi, a6⟩
/-- what a stream's own cells may change -/
def FRs (s : Nat) (S U : ev_St) : Prop := (∀ c i, ¬ (569 + 13 * s + 1 ≤ c ∧ c ≤ 569 + 13 * s + 12) → U.1 c i = S.1 c i) ∧ U.2.1 = S.2.1 ∧ (∀ c i, c ≠ 569 + 13 * s + 3 → U.2.2.1 c i = S.2.2.1 c i) ∧ U.2.2.2 = S.2.2.2
theorem FRs_r : FRs s S S := ⟨fun _ _ _ => rfl, rfl, fun _ _ _ => rfl, rfl⟩
theorem FRs_t (h : FRs s S U) (g : FRs s U V) : FRs s S V := ⟨fun c i y => (g.1 c i y).trans (h.1 c i y), g.2.1.trans h.2.1, fun c i y => (g.2.2.1 c i y).trans (h.2.2.1 c i y), g.2.2.2.trans h.2.2.2⟩
theorem FRs_g (h : GTc (569 + 13 * s + 3) S U) : FRs s S U := ⟨fun c i y => h.1 c i (by omega), h.2.1, fun c i y => h.2.2.1 c i (by omega), h.2.2.2⟩
theorem FRs_w {c i : Nat} {v : Int} (h : 569 + 13 * s + 1 ≤ c ∧ c ≤ 569 + 13 * s + 12) : FRs s S (ev_pI S c i v) := ⟨fun d j y => by
  rw [sp_pI1, if_neg]
  rintro ⟨rfl, _⟩
  exact y h, rfl, fun _ _ _ => rfl, rfl⟩
theorem PRf_s (h : PRf p L P lv S) (g : FRs s S U) : PRf p L P lv U := PRf_c h (fun c i _ _ => g.1 c i (by omega)) (fun c i _ _ => by rw [g.2.1])
/-- the ground of a stream's engine, class -/
theorem RST_st (h : PRf p L P lv U) (hs : s < 4) (hl : U.1 (569 + 13 * s + 1) 1 = (len : Int)) (hl2 : len ≤ 160) : RST Q (569 + 13 * s + 3) (313 + 20 * p + 12) (569 + 13 * s + 1) 1 L.length len L P (fun _ => noE) (sX U (569 + 13 * s + 1) len L) lv U := by
  obtain ⟨a1, a2, a3, a4, a5, a6, a7⟩ := h
  obtain ⟨o1, o2, o3⟩ := al_st s hs
  refine ⟨⟨o1, pk_al p a1⟩, ⟨a2, rfl, a3⟩, a4, a5, fun x hx i z hz h1 => absurd h1 (a7 i z hz), fun x hx i z hz h0 => ?_, ⟨o2, o3, by omega, hl, hl2⟩, ⟨by omega, Or.inl rfl⟩, a6⟩
  rw [sX_iff hz h0]
  refine ⟨fun h => h.2, fun h => ⟨?_, h⟩⟩
  apply Nat.lt_of_not_le
  intro q
  have e : sp_at U (569 + 13 * s + 1) (x : Int) = -1 := if_neg (by omega)
  rw [e] at h
  apply h
  unfold cs
  rw [if_neg]
  omega
theorem SSc_X {k g wd x : Nat} (h : SSc k g wd n P X lv an B x S) (hw : wfP P n) (h0 : 0 < n) (hX : ∀ j i, j < x → i < n → (P i).1 = 0 → X j i = X2 j i) : SSc k g wd n P X2 lv an B x S := by
  unfold SSc at h ⊢
  rw [← stm_X hw h0 x hX]
  exact h
theorem TRc_c {k l s wd n : Nat} {st : Int} {A : SNs} {c : CPs} {out : LFs} (h : TRc k l s wd n st A c out S) (hl : k + 1 ≤ l ∧ l ≤ k + 2) (hs : k + 8 ≤ s ∧ s ≤ k + 9) (h1 : ∀ c i, k ≤ c → c ≤ k + 9 → U.1 c i = S.1 c i) : TRc k l s wd n st A c out U := by
  obtain ⟨y1, y2, y3, y4⟩ := h
  refine ⟨fun i hi => ?_, fun j hj => ?_, ?_, fun i q d hd => ?_⟩
  · rw [h1 _ _ (by omega) (by omega)]
    exact y1 i hi
  · rw [h1 _ _ (by omega) (by omega)]
    exact y2 j hj
  · rw [h1 _ _ (by omega) (by omega)]
    exact y3
  · obtain ⟨z1, z2⟩ := y4 i q d hd
    refine ⟨by rw [h1 _ _ (by omega) (by omega)]; exact z1, fun j hj => ?_⟩
    rw [h1 _ _ (by omega) (by omega)]
    exact z2 j hj
theorem SSc_c {k g wd x : Nat} (h : SSc k g wd n P X lv an B x S) (hb : B ≤ B2) (h1 : ∀ c i, k ≤ c → c ≤ k + 9 → U.1 c i = S.1 c i) (h2 : ∀ i, U.2.2.1 k i = S.2.2.1 k i) : SSc k g wd n P X lv an B2 x U := by
  obtain ⟨l, l2, s, s2, st, A, c, ⟨⟨v1, v2, v3, v4, v5⟩, ⟨v6, v7⟩, v8, v9⟩, w1, w2, w3⟩ := h
  refine ⟨l, l2, s, s2, st, A, c, ⟨⟨by rw [h2]; exact v1, by rw [h2]; exact v2, by rw [h2]; exact v3, by rw [h2]; exact v4, by rw [h2]; exact v5⟩, ⟨by rw [h1 _ _ (by omega) (by omega)]; exact v6, by rw [h1 _ _ (by omega) (by omega)]; exact v7⟩, v8, v9⟩, by omega, TRc_c w2 (by omega) (by omega) h1, CLb_c w3 ⟨h1 _ _ (by omega) (by omega), h1 _ _ (by omega) (by omega), fun j _ => h1 _ _ (by omega) (by omega)⟩⟩
/-- whether two of them are alike up to x -/
theorem sX_eq {w x y i j : Nat} (hz : i < L.length) (h0 : ∀ z, L[i]? = some z → (P i).1 = 0 → z.1 = 0) (hP : (P i).1 = 0) (hj : j < x ∧ j < y) (hs : sp_at U w (j : Int) = sp_at S w (j : Int)) : sX S w x L j i = sX U w y L j i := by
  have hi : L[i]? = some L[i] := List.getElem?_eq_getElem hz
  have q := h0 _ hi hP
  have e : sX S w x L j i = true ↔ sX U w y L j i = true := by
    rw [sX_iff hi q, sX_iff hi q, hs]
    exact ⟨fun t => ⟨hj.2, t.2⟩, fun t => ⟨hj.1, t.2⟩⟩
  cases e1 : sX S w x L j i with
  | true => exact (e.mp e1).symm
  | false =>
    cases e2 : sX U w y L j i with
    | true => rw [e.mpr e2] at e1; cases e1
    | false => rfl
theorem PRf_0 (h : PRf p L P lv S) {i : Nat} : ∀ z, L[i]? = some z → (P i).1 = 0 → z.1 = 0 := fun z hz h0 => by
  rcases h.2.2.2.1 i z hz with y | y | y | y | y | y | y <;> omega
/-- one character -/
theorem st_step (h : PRf p L P lv S) (hs : s < 4) (hQ : 6000 ≤ Q) (hl : S.1 (569 + 13 * s + 1) 1 = (len : Int)) (hl2 : len < 160) (hS : SSc (569 + 13 * s + 3) (313 + 20 * p + 12) 1 L.length P (sX S (569 + 13 * s + 1) len L) lv an B len S) (hB : B ≤ 1999999990) (ha : a2 ≠ 0 ↔ ¬ an = true) : ∃ U S2 V, U = ev_pI (ev_pI S (569 + 13 * s + 1 + 1) len c) (569 + 13 * s + 1) 1 ((len : Int) + 1) ∧ jm_152 Q (569 + 13 * s + 1) c S = some ((), U) ∧ jm_161 Q (569 + 13 * s + 3) (569 + 13 * s + 1 + 1) (len : Int) U = some ((), S2) ∧ jm_160 Q (569 + 13 * s + 3) (569 + 13 * s + 1 + 1) ((len + 1 : Nat) : Int) a2 S2 = some ((), V) ∧ GTc (569 + 13 * s + 3) U S2 ∧ GTc (569 + 13 * s + 3) U V ∧ SSc (569 + 13 * s + 3) (313 + 20 * p + 12) 1 L.length P (sX V (569 + 13 * s + 1) (len + 1) L) lv an (B + 1) (len + 1) V := by
  obtain ⟨o1, o2, o3⟩ := al_st s hs
  obtain ⟨U, hU⟩ : ∃ U, U = ev_pI (ev_pI S (569 + 13 * s + 1 + 1) len c) (569 + 13 * s + 1) 1 ((len : Int) + 1) := ⟨_, rfl⟩
  have add : jm_152 Q (569 + 13 * s + 1) c S = some ((), U) := by
    rw [sp_152 o2 (by rw [hl]; omega), hl, Int.toNat_natCast, hU]
  have uI : ∀ c i, ¬ (c = 569 + 13 * s + 1 ∧ i = 1) → ¬ (c = 569 + 13 * s + 1 + 1 ∧ i = len) → U.1 c i = S.1 c i := fun c i y1 y2 => by
    rw [hU, sp_pI1, if_neg y1, sp_pI1, if_neg y2]
  have ul : U.1 (569 + 13 * s + 1) 1 = ((len + 1 : Nat) : Int) := by
    rw [hU, rd_eq]
    omega
  have fr : FRs s S U := by
    rw [hU]
    exact FRs_t (FRs_w (by omega)) (FRs_w (by omega))
  have hR : RST Q (569 + 13 * s + 3) (313 + 20 * p + 12) (569 + 13 * s + 1) 1 L.length (len + 1) L P (fun _ => noE) (sX U (569 + 13 * s + 1) (len + 1) L) lv U := RST_st (PRf_s h fr) hs ul (by omega)
  have hw := h.2.2.2.2.2.1
  have sa : ∀ j : Nat, j < len → sp_at U (569 + 13 * s + 1) (j : Int) = sp_at S (569 + 13 * s + 1) (j : Int) := fun j hj => by
    unfold sp_at
    rw [ul, hl, if_pos (by omega), if_pos (by omega), uI _ _ (by omega) (by omega)]
  have h1 : SSc (569 + 13 * s + 3) (313 + 20 * p + 12) 1 L.length P (sX U (569 + 13 * s + 1) (len + 1) L) lv an B len U := SSc_c (SSc_X hS hw h.2.2.1 fun j i hj hi h0 => sX_eq hi (PRf_0 h) h0 ⟨hj, by omega⟩ (sa j hj)) (Nat.le_refl _) (fun c i y1 y2 => uI c i (by omega) (by omega)) (fun i => by rw [hU]; rfl)
  obtain ⟨S2, V, c1, c2, c3, c4, c5⟩ := cl_step hR hQ h1 hB ha
  have c6 : ∀ j : Nat, sp_at V (569 + 13 * s + 1) (j : Int) = sp_at U (569 + 13 * s + 1) (j : Int) := fun j => by
    unfold sp_at
    rw [c4.1 _ _ (by omega), c4.1 _ _ (by omega)]
  exact ⟨U, S2, V, hU, add, c1, c2, c3, c4, SSc_X c5 hw h.2.2.1 fun j i hj hi h0 => sX_eq hi (PRf_0 h) h0 ⟨hj, hj⟩ (c6 j)⟩
/-- the draft's characters, one after the other -/
theorem st_take (hs : s < 4) (hQ : 6000 ≤ Q) {D len0 : Nat} (hD : S.1 1 1 = (D : Int)) (hD2 : D ≤ 120) (hl2 : len0 + D ≤ 80) (ha : an = true ↔ S.1 (569 + 13 * s) 2 ≠ 0) : ∀ (m q i : Nat) (U : ev_St), i + m = D → m < q → FRs s S U → PRf p L P lv U → U.1 (569 + 13 * s + 1) 1 = ((len0 + i : Nat) : Int) → (∀ j, j < i → U.1 (569 + 13 * s + 1 + 1) (len0 + j) = S.1 2 j) → (∀ j, j < len0 → U.1 (569 + 13 * s + 1 + 1) j = S.1 (569 + 13 * s + 1 + 1) j) → SSc (569 + 13 * s + 3) (313 + 20 * p + 12) 1 L.length P (sX U (569 + 13 * s + 1) (len0 + i) L) lv an (B + i) (len0 + i) U → B + D ≤ 1999999990 → ∃ V, jl_148_2 Q (569 + 13 * s) 2 q (i : Int) U = some ((), V) ∧ FRs s S V ∧ PRf p L P lv V ∧ V.1 (569 + 13 * s + 1) 1 = ((len0 + D : Nat) : Int) ∧ (∀ j, j < D → V.1 (569 + 13 * s + 1 + 1) (len0 + j) = S.1 2 j) ∧ (∀ j, j < len0 → V.1 (569 + 13 * s + 1 + 1) j = S.1 (569 + 13 * s + 1 + 1) j) ∧ SSc (569 + 13 * s + 3) (313 + 20 * p + 12) 1 L.length P (sX V (569 + 13 * s + 1) (len0 + D) L) lv an (B + D) (len0 + D) V
  | m, 0, i, U, _, h, _, _, _, _, _, _, _ => by omega
  | 0, q + 1, i, U, h1, _, hF, hP, hl, g1, g2, hS, hB => by
    have e : i = D := by omega
    subst e
    refine ⟨U, ?_, hF, hP, hl, g1, g2, hS⟩
    show jb_148_2 Q (569 + 13 * s) 2 (jl_148_2 Q (569 + 13 * s) 2 q) (i : Int) U = _
    unfold jb_148_2
    rw [sp_if (by decide), sp_b, show U.1 (2 - 1) 1 = S.1 1 1 from hF.1 _ _ (by omega), hD, if_pos (Int.le_refl _)]
  | m + 1, q + 1, i, U, h1, h2, hF, hP, hl, g1, g2, hS, hB => by
    have d1 : U.1 1 1 = (D : Int) := (hF.1 _ _ (by omega)).trans hD
    have d2 : ∀ j, U.1 2 j = S.1 2 j := fun j => hF.1 _ _ (by omega)
    have d3 : U.1 (569 + 13 * s) 2 = S.1 (569 + 13 * s) 2 := hF.1 _ _ (by omega)
    obtain ⟨a2, ha2, hc2⟩ : ∃ a2 : Int, a2 = (if S.1 (569 + 13 * s) 2 ≠ 0 then 0 else 1) ∧ (a2 ≠ 0 ↔ ¬ an = true) := by
      refine ⟨_, rfl, ?_⟩
      rw [ha]
      by_cases z : S.1 (569 + 13 * s) 2 ≠ 0
      · rw [if_pos z]
        exact ⟨fun y => absurd rfl y, fun y => absurd z y⟩
      · rw [if_neg z]
        exact ⟨fun _ => z, fun _ => by decide⟩
    obtain ⟨W, S2, V, w0, w1, w2, w3, w4, w5, w6⟩ := st_step (c := S.1 2 i) (a2 := a2) hP hs hQ hl (by omega) hS (by omega) hc2
    have fW : FRs s U W := by
      rw [w0]
      exact FRs_t (FRs_w (by omega)) (FRs_w (by omega))
    have fV : FRs s U V := FRs_t fW (FRs_g w5)
    have wI : ∀ c j, ¬ (c = 569 + 13 * s + 1 ∧ j = 1) → ¬ (c = 569 + 13 * s + 1 + 1 ∧ j = len0 + i) → W.1 c j = U.1 c j := fun c j y1 y2 => by
      rw [w0, sp_pI1, if_neg y1, sp_pI1, if_neg y2]
    have wl : W.1 (569 + 13 * s + 1) 1 = ((len0 + (i + 1) : Nat) : Int) := by
      rw [w0, rd_eq]
      omega
    have wc : W.1 (569 + 13 * s + 1 + 1) (len0 + i) = S.1 2 i := by
      rw [w0, rd_nk (by omega), rd_eq]
    obtain ⟨Z, r1, r2⟩ := st_take hs hQ hD hD2 hl2 ha m q (i + 1) V (by omega) (by omega) (FRs_t hF fV) (PRf_s hP fV) (by rw [w5.1 _ _ (by omega)]; exact wl) (fun j hj => by
      rw [w5.1 _ _ (by omega)]
      by_cases e : j = i
      · rw [e]
        exact wc
      · rw [wI _ _ (by omega) (by omega)]
        exact g1 j (by omega)) (fun j hj => by
      rw [w5.1 _ _ (by omega), wI _ _ (by omega) (by omega)]
      exact g2 j hj) w6 hB
    refine ⟨Z, ?_, r2⟩
    show jb_148_2 Q (569 + 13 * s) 2 (jl_148_2 Q (569 + 13 * s) 2 q) (i : Int) U = _
    have at' : sp_at U 1 (i : Int) = S.1 2 i := by
      unfold sp_at
      rw [if_pos (by omega), Int.toNat_natCast]
      exact d2 i
    unfold jb_148_2
    rw [sp_if (by decide), sp_b, show (2 : Nat) - 1 = 1 from rfl, d1, if_neg (by omega), sp_if (by decide), sp_151 (by decide +kernel) (by omega), sp_bd, at', w1, sp_bd, sp_b, wl, sp_ck (by omega), show ((len0 + (i + 1) : Nat) : Int) - 1 = ((len0 + i : Nat) : Int) by omega, w2, sp_bd, sp_b, w4.1 (569 + 13 * s + 1) 1 (by omega), wl, sp_b, w4.1 (569 + 13 * s) 2 (by omega), fW.1 (569 + 13 * s) 2 (by omega), d3, sp_jn]
    rw [show len0 + i + 1 = len0 + (i + 1) from rfl] at w3
    by_cases z : S.1 (569 + 13 * s) 2 ≠ 0
    · rw [if_pos z] at ha2
      rw [if_pos z]
      try dsimp only
      rw [ha2] at w3
      rw [w3, sp_bd, sp_ck (by omega), show (i : Int) + 1 = ((i + 1 : Nat) : Int) by omega]
      exact r1
    · rw [if_neg z] at ha2
      rw [if_neg z]
      try dsimp only
      rw [ha2] at w3
      rw [w3, sp_bd, sp_ck (by omega), show (i : Int) + 1 = ((i + 1 : Nat) : Int) by omega]
      exact r1
/-- what is told -/
theorem st_tell (hs : s < 4) (hS : SSc (569 + 13 * s + 3) (313 + 20 * p + 12) 1 n P X lv an B len S) (hb : bdO (stm P n X lv an len).2) : jm_149 Q (569 + 13 * s) S = some (if S.1 (569 + 13 * s) 3 = 0 ∧ (stm P n X lv an len).1 ≠ [] then -5 else bvO (stm P n X lv an len).2, S) := by
  obtain ⟨l, l2, s', s2, st, A, c, h1, h2, h3, h4⟩ := hS
  obtain ⟨⟨_, _, _, _, _, _, o7, _, _⟩, _⟩ := al_st s hs
  have h15 := h3.2.2.1
  have t159 : jm_159 Q (569 + 13 * s + 3) 0 S = some (bvO (stm P n X lv an len).2, S) := by
    unfold jm_159
    rw [sp_b]
    cases e : (stm P n X lv an len).2 with
    | none =>
      rw [e] at h4
      have q : S.1 (569 + 13 * s + 3) 14 = 0 := h4
      rw [if_neg (fun z => z q)]
      rfl
    | some x =>
      obtain ⟨e0, d⟩ := x
      rw [e] at h4
      obtain ⟨q1, q2, q3⟩ := h4
      obtain ⟨b1, b2, b3⟩ := hb e0 d e
      have q4 : S.1 (569 + 13 * s + 3 + 7) 0 = d 0 := q3 0 (by decide)
      have q2 : S.1 (569 + 13 * s + 3) 13 = (e0 : Int) := q2
      rw [if_pos (by rw [q1]; decide)]
      try dsimp only
      rw [if_neg (fun z => z rfl), sp_if (by rw [o7]; decide), sp_b, show Int.toNat 0 = 0 from rfl, q4, sp_ck (by omega), sp_b, q2, sp_ck (by omega)]
      rfl
  unfold jm_149
  rw [sp_b, sp_jn]
  by_cases z : S.1 (569 + 13 * s) 3 = 0
  · rw [if_neg (fun y => y z), sp_b, h15]
    cases e : (stm P n X lv an len).1 with
    | nil =>
      rw [if_pos (by show ((0 : Nat) : Int) ≤ 0; decide)]
      try dsimp only
      rw [t159, sp_bd, if_neg (fun y => y.2 rfl)]
    | cons a b =>
      rw [if_neg (by rw [List.length_cons]; omega), if_pos ⟨z, fun y => by cases y⟩]
  · rw [if_pos z]
    try dsimp only
    rw [t159, sp_bd, if_neg (fun y => z y.1)]
end ORR
