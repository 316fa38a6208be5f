/-! ENGINES: one run on both sides -/
section ORD
variable {Q k p N M m n w len x i kt wd b B : Nat} {φ ψ own up lo : Nat → Nat} {S S1 T T1 U V : ev_St} {L : List INS} {g v y : Int}
theorem al_284 : (ev_aln 285 = 208 ∧ ev_aln 286 = 208 ∧ ev_aln 287 = 208 ∧ ev_aln 288 = 832 ∧ ev_aln 289 = 832 ∧ ev_aln 290 = 20 ∧ ev_aln 291 = 20 ∧ ev_aln 292 = 20 * 208 ∧ ev_aln 293 = 20 * 208) ∧ (ev_aln 295 = 208 ∧ ev_aln 296 = 208 ∧ ev_aln 297 = 208 ∧ ev_aln 298 = 832 ∧ ev_aln 299 = 832 ∧ ev_aln 300 = 1 ∧ ev_aln 301 = 1 ∧ ev_aln 302 = 1 * 208 ∧ ev_aln 303 = 1 * 208) := by decide +kernel
theorem ob_buf : ∀ m, m < 3 → ev_isOb (263 + 2 * m) 10 = true ∧ ev_aln (263 + 2 * m + 1) = 160 := by decide +kernel
/-- the class's ground -/
theorem RST_of (hA : STA k p N M φ ψ own up lo S) (hP : PRGU k p N φ S L) (hk : (kt = 284 ∧ wd = 20) ∨ (kt = 294 ∧ wd = 1)) (hm : m < 3) (hl : S.1 (263 + 2 * m) 1 = (len : Int)) (hl2 : len ≤ 80) : RST Q kt (k + 12) (263 + 2 * m) wd L.length len L (tP p S) (tE S (263 + 2 * m) len) (sX S (263 + 2 * m) len L) (lvB (k + 12) S) S := by
  obtain ⟨hw, l0, l201, _⟩ := PU_wf hP
  have hp12 := hA.2.2.1
  have ek : k = 313 + 20 * p := hA.2.2.2
  have ob := ob_buf m hm
  refine ⟨⟨?_, by rw [ek]; exact pk_al p hp12⟩, ⟨hP.1, rfl, l0⟩, fun i z hz => (hP.2.2.2 i z hz).1, fun a ha => ?_, fun x hx i z hz h1 S2 hS2 => ?_, fun x hx i z hz h0 => ?_, ⟨ob.1, ob.2, by omega, hl, by omega⟩, ⟨by omega, by omega⟩, hw⟩
  · rcases hk with ⟨e1, e2⟩ | ⟨e1, e2⟩
    · rw [e1, e2]
      exact al_284.1
    · rw [e1, e2]
      exact al_284.2
  · unfold lvB
    exact decide_eq_true_iff
  · obtain ⟨_, rx⟩ := hP.2.2.2 i z hz
    rcases rx with y | ⟨y1, y2, u, y3, y4, y5, y6⟩ | y | y | y | y | y
    · omega
    · have u0 : u ≠ 0 := fun e => by
        rw [e, Nat.add_zero, (sa_num hA).2.2.2.1] at y4
        omega
      have nd := sa_node hA y3
      have e2 : S.1 (k + 1) (φ u) = kcl (S.1 625 (320 * p + u)) (S.1 629 (320 * p + u)) := nd.2.2.1 u0
      have md := (nd.2.2.2.1 (by omega)).1
      have tx : ∀ g, S2.1 (263 + 2 * m + 1) g = S.1 (263 + 2 * m + 1) g := fun g => hS2.1 _ _ (by omega)
      rw [y5, e2, e_155b (U := S) (len := len) ⟨ob.1, by rw [hS2.1 _ _ (by omega)]; exact hl, by omega, tx⟩ hx y4 md]
      unfold tE
      rw [y6, Int.toNat_natCast]
      rcases edge_01 (U := S) (w := 263 + 2 * m) (len := len) (x := x) (kd := S.1 625 (320 * p + u)) (md := S.1 629 (320 * p + u)) with q | q
      · rw [q, if_neg (by decide)]
      · rw [q, if_pos (by decide)]
    · omega
    · omega
    · omega
    · omega
    · omega
  · rw [sX_iff hz h0]
    refine ⟨fun h => h.2, fun h => ⟨?_, h⟩⟩
    apply Nat.lt_of_not_le
    intro q
    have e : sp_at S (263 + 2 * m) (x : Int) = -1 := if_neg (by omega)
    rw [e] at h
    apply h
    unfold cs
    rw [if_neg]
    omega
theorem sX_end : sX U w len L len i = false := by
  have q : ¬ sX U w len L len i = true := fun h => by
    unfold sX at h
    have := ((@decide_eq_true_iff _ (Classical.propDecidable _)).mp h).1
    omega
  cases e : sX U w len L len i with
  | false => rfl
  | true => exact absurd e q
/-- the reference's ground -/
theorem RSt_of (hA : STA k p N M φ ψ own up lo S) (hP : PRGU k p N φ S L) (hm : m < 3) (hl : S.1 (263 + 2 * m) 1 = (len : Int)) (hl2 : len ≤ 80) (hG : SG S) (h1 : ∀ c g, (625 ≤ c ∧ c ≤ 632) ∨ (662 ≤ c ∧ c ≤ 664) → T.1 c g = S.1 c g) (h2 : ∀ c g, 633 ≤ c → c ≤ 634 → T.2.1 c g = S.2.1 c g) (h3 : T.1 621 73 = (len : Int)) (h4 : ∀ i, i < len → T.1 678 i = S.1 (263 + 2 * m + 1) i) : RSt Q p L.length len (tP p S) (tE S (263 + 2 * m) len) (sX S (263 + 2 * m) len L) T := by
  obtain ⟨hw, l0, l201, _⟩ := PU_wf hP
  have hp12 := hA.2.2.1
  have hN := (sa_num hA).1
  refine ⟨fun i hi => ⟨h1 _ _ (by omega), h1 _ _ (by omega), h1 _ _ (by omega)⟩, ⟨h3, hl2, hp12, by omega⟩, fun i hi h0 => ?_, fun i => sX_end, fun i x hi h1' hx T2 hT2 h81 => ?_, hw⟩
  · obtain ⟨z, z1, z2, z3, _⟩ := PU_at hP hi
    rcases z3 with ⟨y1, y2, u, y3, y4, y5, y6⟩ | y | y | y | y | y | y
    · refine ⟨320 * p + u, y6, by omega, fun x hx => ?_⟩
      have u0 : u ≠ 0 := fun e => by
        rw [e, Nat.add_zero, (sa_num hA).2.2.2.1] at y4
        omega
      have sb := (sa_kd hA y3 u0).1 y4
      have sg := hG m hm x (by omega)
      refine ⟨rs (T.2.1 633 (320 * p + u)) (T.2.1 634 (320 * p + u)) (T.1 678 x), funext fun T' => ?_, ?_⟩
      · rw [h4 x hx]
        exact sp_244 sg
      · rw [sX_iff z1 y1, h2 _ _ (by omega) (by omega), h2 _ _ (by omega) (by omega), h4 x hx, ← SB_cs sb.1 sg]
        have e : sp_at S (263 + 2 * m) (x : Int) = S.1 (263 + 2 * m + 1) x := by
          unfold sp_at
          rw [if_pos (by omega), Int.toNat_natCast]
        rw [e, show z.2.2.1 = S.2.1 (k + 8) (φ u) by rw [y5], show z.2.2.2 = S.2.1 (k + 9) (φ u) by rw [y5]]
        exact ⟨fun h => h.2, fun h => ⟨hx, h⟩⟩
    · omega
    · omega
    · omega
    · omega
    · omega
    · omega
  · obtain ⟨z, z1, z2, z3, _⟩ := PU_at hP hi
    rcases z3 with y | ⟨y1, y2, u, y3, y4, y5, y6⟩ | y | y | y | y | y
    · omega
    · have bt : BTx p u S (263 + 2 * m) len T2 := ⟨by rw [hT2.1 _ _ (by omega) (by omega)]; exact h1 _ _ (by omega), by rw [hT2.1 _ _ (by omega) (by omega)]; exact h1 _ _ (by omega), by rw [hT2.1 _ _ (by omega) (by omega)]; exact h3, fun i hi => by rw [hT2.1 _ _ (by omega) (by omega)]; exact h4 i hi, by omega⟩
      rw [y6, t_295b bt (by omega) h81 hx y4]
      unfold tE
      rw [Int.toNat_natCast]
      rcases edge_01 (U := S) (w := 263 + 2 * m) (len := len) (x := x) (kd := S.1 625 (320 * p + u)) (md := S.1 629 (320 * p + u)) with q | q
      · rw [q, if_neg (by decide)]
      · rw [q, if_pos (by decide)]
    · omega
    · omega
    · omega
    · omega
    · omega
/-- what both tell of a group -/
theorem told_th {e : Nat × CPs} {q : Nat} {In : Nat → Int → Prop} (hk : (kt = 284 ∧ wd = 20) ∨ (kt = 294 ∧ wd = 1)) (hI : INVc In q e.2) (he : e.1 ≤ 160) (h0 : S.1 kt 0 = (wd : Int)) (h14 : S.1 kt 14 = 1) (h13 : S.1 kt 13 = (e.1 : Int)) (h7 : ∀ j, j < wd → S.1 (kt + 7) j = e.2 j) (t0 : T.1 679 0 = e.2 0) (t1 : T.1 680 0 = (e.1 : Int)) (t2 : ∀ j, 1 ≤ j → j < 10 → T.1 679 j = (if e.2 (2 * j + 1) = -1 then -1 else e.2 (2 * j)) ∧ T.1 680 j = e.2 (2 * j + 1)) (hg : 0 ≤ g ∧ g ≤ 9) (hw : wd = 20 ∨ g = 0) : ∃ r, jm_159 Q kt g S = some (r, S) ∧ jm_327 Q 1 g T = some (r, T) := by
  obtain ⟨l79, l80, _⟩ := al_Gt
  have a7 : ev_aln (kt + 7) = wd := by
    rcases hk with ⟨e1, e2⟩ | ⟨e1, e2⟩
    · rw [e1, e2]
      exact al_284.1.2.2.2.2.2.2.1
    · rw [e1, e2]
      exact al_284.2.2.2.2.2.2.2.1
  have b0 := hI.2.2.1 0
  have c0 := hI.2.2.2
  obtain ⟨g', hg'⟩ : ∃ g' : Nat, g = (g' : Int) := ⟨g.toNat, by omega⟩
  subst hg'
  by_cases z : g' = 0
  · subst z
    refine ⟨1000 * e.2 0 + (e.1 : Int), ?_, ?_⟩
    · unfold jm_159
      rw [sp_b, h14, if_pos (by decide), if_neg (fun q => q rfl), a7, sp_if (by omega), show Int.toNat (0 : Int) = 0 from rfl, sp_b, h7 0 (by omega), sp_ck (by omega), sp_b, h13, sp_ck (by omega)]
    · unfold jm_327
      rw [if_pos rfl, l79, sp_if (by omega), show Int.toNat ((0 : Nat) : Int) = 0 from rfl, sp_b, t0, if_pos (by omega), sp_if (by omega), sp_b, sp_ck (by omega), l80, sp_if (by omega), sp_b, t1, sp_ck (by omega)]
  · have w20 : wd = 20 := by omega
    obtain ⟨u1, u2⟩ := t2 g' (by omega) (by omega)
    have b1 := hI.2.2.1 (2 * g')
    have b2 := hI.2.2.1 (2 * g' + 1)
    have k1 : S.1 (kt + 7) (2 * g') = e.2 (2 * g') := h7 _ (by omega)
    have k2 : S.1 (kt + 7) (2 * g' + 1) = e.2 (2 * g' + 1) := h7 _ (by omega)
    have i1 : Int.toNat (2 * (g' : Int)) = 2 * g' := by omega
    have i2 : Int.toNat (2 * (g' : Int) + 1) = 2 * g' + 1 := by omega
    by_cases y : e.2 (2 * g' + 1) = -1
    · refine ⟨-3, ?_, ?_⟩
      · unfold jm_159
        rw [sp_b, h14, if_pos (by decide), if_pos (by omega), if_neg (by omega), sp_ck (by omega), sp_ck (by omega), sp_b, h0, if_neg (by omega), sp_ck (by omega), sp_ck (by omega), a7, sp_if (by omega), i2, sp_b, k2, if_neg (by omega)]
      · unfold jm_327
        rw [if_pos rfl, l79, sp_if (by omega), Int.toNat_natCast, sp_b, u1, if_pos y, if_neg (fun q => q rfl)]
    · have n1 := hI.2.1 g' y
      refine ⟨1000 * e.2 (2 * g') + e.2 (2 * g' + 1), ?_, ?_⟩
      · unfold jm_159
        rw [sp_b, h14, if_pos (by decide), if_pos (by omega), if_neg (by omega), sp_ck (by omega), sp_ck (by omega), sp_b, h0, if_neg (by omega), sp_ck (by omega), sp_ck (by omega), a7, sp_if (by omega), i2, sp_b, k2, if_pos (by omega), sp_ck (by omega), sp_if (by omega), i1, sp_b, k1, sp_ck (by omega), sp_ck (by omega), sp_ck (by omega), sp_if (by omega), i2, sp_b, k2, sp_ck (by omega)]
      · unfold jm_327
        rw [if_pos rfl, l79, sp_if (by omega), Int.toNat_natCast, sp_b, u1, if_neg y, if_pos n1, sp_if (by omega), sp_b, sp_ck (by omega), l80, sp_if (by omega), sp_b, u2, sp_ck (by omega)]
/-- one run of an engine -/
theorem eng_two (hQ : 1000000 ≤ Q) (hK : sp_PT S) (hB : sp_BR S) (hG : SG S) (hp : (p : Int) < S.1 0 5) (hm : m < 3) (hl : S.1 (263 + 2 * m) 1 = (len : Int)) (hl2 : len ≤ 80) (hx : x ≤ len) (h14 : S.1 (313 + 20 * p) 14 ≠ 0) (hk : (kt = 284 ∧ wd = 20) ∨ (kt = 294 ∧ wd = 1)) (hT : THc kt wd B S) (hb : B ≤ 1999999000) : ∃ S1, jm_157 Q kt (313 + 20 * p + 12 + 1) (263 + 2 * m + 1) (x : Int) S = some ((), S1) ∧ GTc kt S S1 ∧ THc kt wd (B + 90) S1 ∧ ∀ T, RFs S T → ∃ T1 T2 v, jm_288 Q (m : Int) T = some ((), T1) ∧ jm_315 Q (p : Int) (x : Int) T1 = some (v, T2) ∧ (∀ c g, ¬ (c = 621 ∧ (g = 73 ∨ g = 81)) → ¬ (669 ≤ c ∧ c ≤ 672) → ¬ (678 ≤ c ∧ c ≤ 680) → T2.1 c g = T.1 c g) ∧ T2.2 = T.2 ∧ ∀ g, 0 ≤ g ∧ g ≤ 9 → wd = 20 ∨ g = 0 → ∃ r, jm_159 Q kt g S1 = some (r, S1) ∧ jm_327 Q (if v = 0 then 0 else 1) g T2 = some (r, T2) := by
  have hp12 : p < 12 := by have := hK.1; omega
  obtain ⟨N, M, φ, ψ, own, up, lo, L, hA, hP⟩ := PRG_of (hK.2 p hp) hp12 rfl h14
  obtain ⟨hw, l0, l201, In, hlb, hi0⟩ := PU_wf hP
  have hR := RST_of (Q := Q) hA hP hk hm hl hl2
  obtain ⟨g', l, l2, s, s2, st, hs, hst, hse⟩ := hT
  obtain ⟨S1, c1, c2, c3, c4⟩ := cl_157 hR (by omega) (fun i => sX_end) hs (by omega) hse hx
  obtain ⟨th1, th2, th3, th4, th5, th6, th7, th8, th9⟩ := c3
  have lv := PK_live (E := tE S (263 + 2 * m) len) hw l0 (PU_lv hP) (PU_lvX (w := 263 + 2 * m) (len := len) hP) (len - x) x [] [] true (fun y hy => by cases hy) (fun y hy => by cases hy) rfl
  rw [lv] at c4
  refine ⟨S1, c1, c2, ⟨th1, th2, th3, th4, th5, th6, th7, by omega, th9⟩, fun T hT2 => ?_⟩
  obtain ⟨d1, d2, d3, d4⟩ := hB m hm
  obtain ⟨T1, v1, v2, v3, v4, v5⟩ := sp_288 (Q := Q) (T := T) (len := len) hm (by omega) (by rw [hT2.1 707 m (by omega) (by omega) (by omega) (by omega)]; omega) (by omega)
  have hS := RSt_of (Q := Q) (T := T1) hA hP hm hl hl2 hG (fun c g h => by rw [v4 c g (by omega) (by omega)]; exact hT2.1 c g (by omega) (by omega) (by omega) (by omega)) (fun c g h1 h2 => by rw [v5]; exact hT2.2 c g (by omega)) v2 (fun i hi => by
    rw [v3 i hi, hT2.1 708 _ (by omega) (by omega) (by omega) (by omega)]
    exact (d4 i (by omega)).1)
  obtain ⟨T2, e1, e2, e3⟩ := sp_315 hS l0 hQ hx
  have lb := fun e => PK_lb (E := tE S (263 + 2 * m) len) (X := sX S (263 + 2 * m) len L) (lv := fun _ => true) (In := In) hw l0 hlb hi0 (len - x) x [] true e (by omega) (fun y hy => by cases hy)
  have fr : (∀ c g, ¬ (c = 621 ∧ (g = 73 ∨ g = 81)) → ¬ (669 ≤ c ∧ c ≤ 672) → ¬ (678 ≤ c ∧ c ≤ 680) → T2.1 c g = T.1 c g) ∧ T2.2 = T.2 := ⟨fun c g y1 y2 y3 => (e2 c g (by omega) y2 (by omega)).trans (v4 c g (by omega) (by omega)), e3.trans v5⟩
  generalize PK (tP p S) L.length (tE S (263 + 2 * m) len) (sX S (263 + 2 * m) len L) (fun _ => true) (len - x) x [] true = o at c4 e1 lb
  cases o with
  | none =>
    refine ⟨T1, T2, 0, v1, e1, fr.1, fr.2, fun g hg hw2 => ⟨-1, ?_, ?_⟩⟩
    · unfold jm_159
      rw [sp_b, c4, if_neg (fun q => q rfl)]
    · unfold jm_327
      rw [if_pos rfl, if_neg (by decide), if_neg (fun q => q rfl)]
  | some e =>
    obtain ⟨f1, f2, f3, f4⟩ := e1
    obtain ⟨h1, h2, h3⟩ := c4
    obtain ⟨⟨q, iv⟩, le⟩ := lb e rfl
    refine ⟨T1, T2, 1, v1, f1, fr.1, fr.2, fun g hg hw2 => ?_⟩
    rw [if_neg (by decide)]
    exact told_th hk iv (by omega) th7.2.1.1 h1 h2 h3 f2 f3 f4 hg hw2
end ORD
