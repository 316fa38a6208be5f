/-! STREAMS: the calls told, finish, feed, stream -/
section ORT
variable {Q s p len B B2 L j : Nat} {xs : Nat → Int32} {S S1 S2 T U V : ev_St} {an : Bool} {a x y v : Int}
def sp_WT (c g : Nat) : Prop := (c = 621 ∧ (g = 0 ∨ g = 1 ∨ g = 68 ∨ g = 139)) ∨ (669 ≤ c ∧ c ≤ 677) ∨ (569 ≤ c ∧ c ≤ 620) ∨ (718 ≤ c ∧ c ≤ 722) ∨ (c = 1 ∧ g = 1) ∨ (c = 0 ∧ g = 18)
/-- the frame of a stream's call -/
def sp_FT (S S2 : ev_St) : Prop := (∀ c g, ¬ sp_WT c g → S2.1 c g = S.1 c g) ∧ (∀ c g, c ≠ 723 → S2.2.1 c g = S.2.1 c g) ∧ (∀ c g, ¬ (569 ≤ c ∧ c ≤ 620) → S2.2.2.1 c g = S.2.2.1 c g) ∧ S2.2.2.2.1 = S.2.2.2.1 ∧ S2.2.2.2.2.1 = S.2.2.2.2.1 ∧ S2.2.2.2.2.2.1 ≤ S.2.2.2.2.2.1 + 1 ∧ S2.2.2.2.2.2.2 ≤ S.2.2.2.2.2.2 + 6
theorem FT_of (h : sp_F sp_Wc S S2) : sp_FT S S2 := ⟨fun c g y => h.1 c g (fun z => y (Or.inl ⟨z.1, Or.inl z.2⟩)), h.2.1, fun c g _ => by rw [h.2.2.1], h.2.2.2.1, h.2.2.2.2.1, h.2.2.2.2.2.1, h.2.2.2.2.2.2⟩
theorem WT_no {c g : Nat} (h : (c = 0 ∧ g = 5) ∨ (c = 621 ∧ g = 5) ∨ (313 ≤ c ∧ c ≤ 552) ∨ (625 ≤ c ∧ c ≤ 665)) : ¬ sp_WT c g := fun y => by
  unfold sp_WT at y
  omega
theorem PT_FT (hK : sp_PT S) (hF : sp_FT S S2) : sp_PT S2 := by
  obtain ⟨f, l, _⟩ := hF
  have hc := hK.1
  exact PT_c hK ⟨f _ _ (WT_no (by omega)), f _ _ (WT_no (by omega))⟩ fun p hp => ⟨fun x i x1 x2 => ⟨f x i (WT_no (by omega)), l x i (by omega)⟩, ⟨fun c g y _ _ => f c g (WT_no (by omega)), fun c g y1 y2 _ _ => l c g (by omega), fun c y => f c p (WT_no (by omega)), fun i _ => f _ _ (WT_no (by omega)), fun i _ => f _ _ (WT_no (by omega))⟩, f _ _ (WT_no (by omega)), f _ _ (WT_no (by omega)), fun c g y1 y2 _ _ => f c g (WT_no (by omega))⟩
theorem ZR_FT (hZ : sp_ZR S) (hF : sp_FT S S2) : sp_ZR S2 := ZR_c hZ fun c g y => hF.1 c g (WT_no (by omega))
theorem c202 (h : 0 ≤ S.1 0 18 ∧ S.1 0 18 ≤ 4) : jm_202 Q a S = some (if 0 ≤ a ∧ a < S.1 0 18 then 569 + 13 * a.toNat + 1 else 0, S) := by
  unfold jm_202
  by_cases h1 : a < 0
  · rw [if_pos h1, if_neg (by omega)]
  · rw [if_neg h1, sp_b]
    by_cases h2 : S.1 0 18 ≤ a
    · rw [if_pos h2, if_neg (by omega)]
    · rw [if_neg h2, if_neg (by omega), sp_if (by omega), sp_b, if_pos (by omega)]
theorem c320 (h5 : T.1 621 139 = y) (hy : 0 ≤ y ∧ y ≤ 4) : jm_320 Q a T = some (if 0 ≤ a ∧ a < y then 1 else 0, T) := by
  unfold jm_320
  rw [sp_b, h5, sp_ck (by omega), sp_222, sp_bd]
  by_cases h : 0 ≤ a ∧ a < y
  · rw [sp_in1.1 (by omega), if_pos h, sp_if (Or.inr rfl)]
  · rw [sp_in1.2 (by omega), if_neg h, sp_if (Or.inl rfl)]
/-- a stream's program, with all that is known of it -/
theorem st_prog (hK : sp_PT S) (h15 : (p : Int) < S.1 0 5 ∧ S.1 (313 + 20 * p) 15 ≠ 0) : ∃ N M φ ψ own up lo L, STA (313 + 20 * p) p N M φ ψ own up lo S ∧ PRGU (313 + 20 * p) p N φ S L ∧ S.1 665 p + 1 = (L.length : Int) ∧ (∀ (i : Nat) (z : INS), L[i]? = some z → z.1 ≠ 1) ∧ S.1 639 p = 3 ∧ PRf p L (tQ p S) (lvB (313 + 20 * p + 12) S) S := by
  have hk := hK.2 p h15.1
  have hp : p < 12 := by
    have := hK.1
    omega
  have kn := (kp_num hk).2.1
  have e3 : S.1 639 p = 3 ∧ S.1 (313 + 20 * p) 14 ≠ 0 := by
    rcases kn with y | y | y
    · exact absurd y.2.1 h15.2
    · exact absurd y.2.1 h15.2
    · exact ⟨y.2.2, by rw [y.1]; decide⟩
  obtain ⟨N, M, φ, ψ, own, up, lo, L, a1, a2, a3, a4⟩ := PRG_of2 hk hp rfl e3.2
  have hn := a4 e3.1
  obtain ⟨_, _, l201, _⟩ := PU_wf a2
  exact ⟨N, M, φ, ψ, own, up, lo, L, a1, a2, a3, hn, e3.1, PRf_of a1 a2 hn (fun i hi => tQ_eq (by omega)) (fun i _ => by unfold lvB; exact decide_eq_true_iff)⟩
/-- what is told, on both sides -/
theorem tell_two (hK : sp_PT U) (hZ : sp_ZR U) (hs : s < 4) (h : StL s B U) (hQ : 6000 ≤ Q) : ∃ v, (∃ W, jm_319 Q (s : Int) U = some (v, W) ∧ (∀ c i, ¬ (c = 621 ∧ i = 68) → ¬ (669 ≤ c ∧ c ≤ 670) → ¬ (673 ≤ c ∧ c ≤ 677) → W.1 c i = U.1 c i) ∧ W.2 = U.2) ∧ ∀ V : ev_St, (∀ c g, 569 + 13 * s ≤ c → c ≤ 569 + 13 * s + 12 → V.1 c g = U.1 c g) → (∀ i, V.2.2.1 (569 + 13 * s + 3) i = U.2.2.1 (569 + 13 * s + 3) i) → jm_149 Q (569 + 13 * s) V = some (v, V) := by
  obtain ⟨p, len, L', an, ⟨a1, a2, a3⟩, ⟨b1, b2⟩, c1, ⟨d1, d2, d3⟩, e1, f1, g1⟩ := h
  obtain ⟨N, M, φ, ψ, own, up, lo, L, h1, h2, h3, h4, h5, h6⟩ := st_prog hK ⟨a1, a3⟩
  have el : L'.length = L.length := by
    have := f1.1.symm.trans h2.1.1
    omega
  rw [el, sX_u f1 h2.1] at g1
  obtain ⟨r1, r2⟩ := r_tell h1 h2 h3 h4 hZ (by rw [h5]; decide) hs a2 d1 d2 d3 e1 b2 (Q := Q) (by omega)
  refine ⟨_, r2, fun V v1 v2 => ?_⟩
  have g2 := SSc_c (U := V) g1 (Nat.le_refl _) (fun c i y1 y2 => v1 c i (by omega) (by omega)) v2
  rw [st_tell hs g2 r1, v1 _ _ (by omega) (by omega), c1]
theorem FT_r : sp_FT S S := ⟨fun _ _ _ => rfl, fun _ _ _ => rfl, fun _ _ _ => rfl, rfl, rfl, Nat.le_succ _, Nat.le_add_right _ _⟩
def sp_WN (c g : Nat) : Prop := (c = 621 ∧ (g = 0 ∨ g = 68)) ∨ (669 ≤ c ∧ c ≤ 677)
theorem ST_N (h : sp_ST B S) (hb : B ≤ B2) (h5 : S.1 0 5 ≤ 12) (f : ∀ c g, ¬ sp_WN c g → S2.1 c g = S.1 c g) (l : ∀ c g, c ≠ 723 → S2.2.1 c g = S.2.1 c g) (r : ∀ c i, S2.2.2.1 c i = S.2.2.1 c i) : sp_ST B2 S2 := by
  have f' : ∀ c g, c ≠ 621 → ¬ (669 ≤ c ∧ c ≤ 677) → S2.1 c g = S.1 c g := fun c g y1 y2 => f c g (fun z => by
    unfold sp_WN at z
    omega)
  exact ST_c h hb (by rw [f' 0 5 (by decide) (by omega)]; exact Int.le_refl _) ⟨f' _ _ (by decide) (by omega), f _ _ (fun z => by unfold sp_WN at z; omega)⟩ (fun c g y1 y2 => f' c g (by omega) (by omega)) (fun c i _ _ => r c i) (fun c i y1 y2 => f' c i (by omega) (by omega)) (fun p hp => ⟨fun c g y1 y2 => ⟨f' c g (by omega) (by omega), l c g (by omega)⟩, fun c g y1 y2 _ _ => f' c g (by omega) (by omega)⟩)
theorem ST_F (h : sp_ST B S) (hb : B ≤ B2) (h5 : S.1 0 5 ≤ 12) (hF : sp_F sp_Wc S S2) : sp_ST B2 S2 := ST_N h hb h5 (fun c g y => hF.1 c g (fun z => y (Or.inl ⟨z.1, Or.inl z.2⟩))) hF.2.1 (fun c i => by rw [hF.2.2.1])
theorem F_y (y : Int64) : sp_F sp_Wc S (ev_pI (ev_pL S 723 0 y) 621 0 0) := ⟨fun b g h => by
  unfold sp_Wc at h
  rw [sp_pI1, if_neg h]
  rfl, fun b g h => by rw [sp_pI2, sp_pL2, if_neg (fun z => h z.1)], rfl, rfl, rfl, Nat.le_succ _, Nat.le_add_right _ _⟩
/-- one stream changes, or is begun -/
theorem ST_one (h : sp_ST B S) (hb : B ≤ B2) (hs : s < 4) (h5 : S.1 0 5 ≤ 12) (hc : 0 ≤ S2.1 0 18 ∧ S2.1 0 18 ≤ 4 ∧ S2.1 621 139 = S2.1 0 18) (h1 : ∀ t : Nat, t ≠ s → ((t : Int) < S2.1 0 18 ↔ (t : Int) < S.1 0 18)) (hs2 : (s : Int) < S2.1 0 18) (hL : StL s B2 S2) (f : ∀ c g, ¬ (569 + 13 * s ≤ c ∧ c ≤ 569 + 13 * s + 12) → ¬ (718 ≤ c ∧ c ≤ 721 ∧ g = s) → ¬ (c = 722 ∧ 80 * s ≤ g ∧ g < 80 * s + 80) → ¬ (c = 0 ∧ g = 18) → ¬ (c = 1 ∧ g = 1) → c ≠ 621 → S2.1 c g = S.1 c g) (l : ∀ c g, c ≠ 723 → S2.2.1 c g = S.2.1 c g) (r : ∀ c i, c ≠ 569 + 13 * s + 3 → S2.2.2.1 c i = S.2.2.1 c i) : sp_ST B2 S2 := by
  obtain ⟨⟨a1, a2, a3⟩, b, c⟩ := h
  refine ⟨hc, fun t ht h2 => ?_, fun t ht h2 => ?_⟩
  · by_cases e : t = s
    · rw [e]
      exact hL
    · have o := b t ht ((h1 t e).mp h2)
      exact StL_c o hb (by rw [f 0 5 (by omega) (by omega) (by omega) (by omega) (by omega) (by omega)]; exact Int.le_refl _) (fun c g y1 y2 _ => f c g (by omega) (by omega) (by omega) (by omega) (by omega) (by omega)) (by rw [f _ _ (by omega) (by omega) (by omega) (by omega) (by omega) (by omega), f _ _ (by omega) (by omega) (by omega) (by omega) (by omega) (by omega)]; exact StL_3 o) (fun i => r _ _ (by omega)) (fun c y1 y2 _ => f c _ (by omega) (by omega) (by omega) (by omega) (by omega) (by omega)) (fun j _ => f _ _ (by omega) (by omega) (by omega) (by omega) (by omega) (by omega)) (fun p hp => ⟨fun c g y1 y2 => ⟨f c g (by omega) (by omega) (by omega) (by omega) (by omega) (by omega), l c g (by omega)⟩, fun c g y1 y2 _ _ => f c g (by omega) (by omega) (by omega) (by omega) (by omega) (by omega)⟩)
  · have e : t ≠ s := fun e => by
      rw [e] at h2
      omega
    have o := c t ht (by
      have := h1 t e
      omega)
    exact StU_c o (fun c g y1 y2 => f c g (by omega) (by omega) (by omega) (by omega) (by omega) (by omega)) (fun i => r _ _ (by omega)) (fun c y1 y2 => f c _ (by omega) (by omega) (by omega) (by omega) (by omega) (by omega))
/-- told at the end of a call: what it leaves -/
theorem tl_end {W : ev_St} (hF : sp_FT S U) (hST : sp_ST B U) (hD : sp_DR U) (h5 : U.1 0 5 ≤ 12) (w1 : ∀ c i, ¬ (c = 621 ∧ i = 68) → ¬ (669 ≤ c ∧ c ≤ 670) → ¬ (673 ≤ c ∧ c ≤ 677) → W.1 c i = U.1 c i) (w2 : W.2 = U.2) : sp_FT S W ∧ sp_ST B W ∧ sp_DR W := by
  refine ⟨⟨fun c g y => ?_, fun c g y => by rw [w2]; exact hF.2.1 c g y, fun c g y => by rw [w2]; exact hF.2.2.1 c g y, by rw [w2]; exact hF.2.2.2.1, by rw [w2]; exact hF.2.2.2.2.1, by rw [w2]; exact hF.2.2.2.2.2.1, by rw [w2]; exact hF.2.2.2.2.2.2⟩, ST_N hST (Nat.le_refl _) h5 (fun c g y => ?_) (fun c g _ => by rw [w2]) (fun c i => by rw [w2]), DR_c2 (fun c g y => w1 c g (by omega) (by omega) (by omega)) hD⟩
  · have y' := y
    unfold sp_WT at y'
    rw [w1 c g (by omega) (by omega) (by omega)]
    exact hF.1 c g y
  · unfold sp_WN at y
    exact w1 c g (by omega) (by omega) (by omega)
/-- a refusal -/
theorem st_no {cc : Int} (hST : sp_ST B S) (hD : sp_DR S) (h5 : S.1 0 5 ≤ 12) : sp_FT S (ev_pI (ev_tick S) 621 0 cc) ∧ sp_ST (B + 90) (ev_pI (ev_tick S) 621 0 cc) ∧ sp_DR (ev_pI (ev_tick S) 621 0 cc) := ⟨FT_of sp_F_no, ST_F hST (Nat.le_add_right _ _) h5 sp_F_no, DR_c2 (fun c g y => sp_F_no.1 c g (fun z => by
  unfold sp_Wc at z
  omega)) hD⟩
theorem op_32 (hQ : 1000000 ≤ Q) (hK : sp_PT S) (hZ : sp_ZR S) (hST : sp_ST B S) (hD : sp_DR S) (hL : L ≤ 3072) (hj : j + 6 ≤ L) : ∃ S2, (∀ K, ja_2216 Q L xs (j : Int) K S = K S2) ∧ sp_FT S S2 ∧ sp_ST (B + 90) S2 ∧ sp_DR S2 := by
  obtain ⟨a, ha⟩ : ∃ a, a = (xs (Int.toNat ((j : Int) + 1))).toInt := ⟨_, rfl⟩
  obtain ⟨t1, t2, t3⟩ := hST.1
  obtain ⟨k1, k2, k3⟩ := hK.1
  have c2 := c202 (Q := Q) (a := a) ⟨t1, t2⟩
  by_cases h : 0 ≤ a ∧ a < S.1 0 18
  · obtain ⟨s, hs⟩ : ∃ s : Nat, a = (s : Int) := ⟨a.toNat, by omega⟩
    have as : a.toNat = s := by omega
    have hs4 : s < 4 := by omega
    rw [if_pos h, as] at c2
    have one : ∀ y : Int64, ∃ v W, jm_149 Q (569 + 13 * s) S = some (v, S) ∧ jm_324 Q a (ev_pL S 723 0 y) = some (v, W) ∧ (sp_FT S W ∧ sp_ST (B + 90) W ∧ sp_DR W) ∧ W.1 621 0 = 0 ∧ W.2.1 723 0 = y := fun y => by
      obtain ⟨U, hU⟩ : ∃ U, U = ev_pI (ev_pL S 723 0 y) 621 0 0 := ⟨_, rfl⟩
      have fy : sp_F sp_Wc S U := by rw [hU]; exact F_y y
      have su : sp_ST (B + 90) U := ST_F hST (Nat.le_add_right _ _) k2 fy
      have uc : ∀ c g, c ≠ 621 → U.1 c g = S.1 c g := fun c g y => fy.1 c g (fun z => y z.1)
      have e139 : U.1 621 139 = S.1 0 18 := (fy.1 _ _ (fun z => absurd z.2 (by decide))).trans t3
      obtain ⟨v, ⟨W, w1, w2, w3⟩, tl⟩ := tell_two (Q := Q) (PT_FT hK (FT_of fy)) (ZR_FT hZ (FT_of fy)) hs4 (su.2.1 s hs4 (by rw [uc _ _ (by decide)]; omega)) (by omega)
      refine ⟨v, W, tl S (fun c g _ _ => (uc c g (by omega)).symm) (fun i => by rw [fy.2.2.1]), ?_, tl_end (FT_of fy) su (DR_c2 (fun c g y => fy.1 c g (fun z => by
        unfold sp_Wc at z
        omega)) hD) (by rw [uc _ _ (by decide)]; exact k2) w2 w3, ?_, ?_⟩
      · unfold jm_324
        rw [sp_b, ← hU, c320 e139 ⟨t1, t2⟩, if_pos h, sp_bd, if_neg (by decide), hs, w1, sp_bd]
      · rw [w2 _ _ (by omega) (by omega) (by omega), hU, rd_eq]
      · rw [w3, hU, sp_pI2, sp_pL2, if_pos ⟨rfl, rfl⟩]
    obtain ⟨v, _, v1, _⟩ := one 0
    obtain ⟨v', W, v1', w1, w2, w3, w4⟩ := one (ev_i2l v)
    have vv : v' = v := (congrArg Prod.fst (Option.some.inj (v1.symm.trans v1'))).symm
    rw [vv] at w1
    have cl : jm_198 Q a S = some (.inl v, S) := by
      unfold jm_198
      rw [c2, sp_bd, if_neg (by omega), show 569 + 13 * s + 1 - 1 = 569 + 13 * s from rfl, v1, sp_bd]
    exact ⟨W, fun K => la_32 (c := 0) (b := v) hL hj (by rw [← ha]; exact lw_32_ok a cl) (by rw [← ha]; exact w1) w3 (fun _ => w4), w2⟩
  · rw [if_neg h] at c2
    have cl : jm_198 Q a S = some (.inr "java/lang/IndexOutOfBoundsException", ev_tick S) := by
      unfold jm_198
      rw [c2, sp_bd, if_pos rfl]
    have rf : jm_324 Q a (ev_tick S) = some (0, ev_pI (ev_pI (ev_tick S) 621 0 0) 621 0 1) := by
      unfold jm_324
      rw [sp_b, c320 (T := ev_pI (ev_tick S) 621 0 0) (y := S.1 0 18) ((rd_nf (by decide)).trans t3) ⟨t1, t2⟩, if_neg h, sp_bd, if_pos rfl]
      rfl
    rw [pI_pI] at rf
    exact ⟨_, fun K => la_32 (c := 1) (b := 0) hL hj (by rw [← ha]; exact lw_32_x0 a cl) (by rw [← ha]; exact rf) rd_eq (fun z => absurd z (by decide)), st_no hST hD k2⟩
end ORT
