/-! SEARCH: both machines side by side: what is kept -/
section OPZD
variable {Q k p N M m n n2 h h2 us us2 vs vs2 ls ls2 w len x0 x u v g : Nat} {C : Int} {φ ψ own up lo : Nat → Nat} {S S1 S2 T T1 T2 U : ev_St} {V : Nat → Nat → Nat → List KT → Nat → Int} {ks : List KT} {o t a b c d y : Int}
theorem lbu (h1 : ls = 0 ∨ 4 * ls + 4 ≤ us) (h2 : us ≤ us2) : ls = 0 ∨ 4 * ls + 4 ≤ us2 := h1.elim Or.inl fun z => Or.inr (Nat.le_trans z h2)
theorem AC_r : AC us h S S := ⟨fun _ _ => rfl, fun _ _ => rfl, rfl, fun _ _ _ => rfl⟩
theorem AR_r : AR vs h ls T T := ⟨fun _ _ _ _ _ => rfl, fun _ _ _ _ _ => rfl, fun _ _ _ _ _ => rfl, rfl, fun _ _ _ _ => rfl⟩
theorem AC_i {f : Nat} (h1 : AC us h S S1) : AC us h S (ev_pI S1 281 f y) := ⟨fun i z => by rw [rd_nk (by decide)]; exact h1.1 i z, fun i z => by rw [rd_nk (by decide)]; exact h1.2.1 i z, h1.2.2.1, fun c g z => by rw [rd_nk (by omega)]; exact h1.2.2.2 c g z⟩
theorem AC_c (h1 : AC us h S S1) (hu : us ≤ u) : AC us h S (pCell S1 u o t a b) := ⟨fun i z => by rw [(pCell_r (S := S1) (u := u) (o := o) (t := t) (a := a) (b := b) (i := i)).2.2.1 (by omega)]; exact h1.1 i z, fun i z => by rw [(pCell_r (S := S1) (u := u) (o := o) (t := t) (a := a) (b := b) (i := i)).2.2.2.1 _ _ (by decide) (by omega)]; exact h1.2.1 i z, h1.2.2.1, fun c g z => by rw [(pCell_r (S := S1) (u := u) (o := o) (t := t) (a := a) (b := b) (i := 0)).2.2.2.1 _ _ (by omega) (by omega)]; exact h1.2.2.2 c g z⟩
theorem AC_h (h1 : AC us h S S1) (hh : h ≤ h2) : AC us h S (pChc S1 h2 a b c) := ⟨fun i z => by rw [(pChc_oth (by decide) (by omega)).1]; exact h1.1 i z, fun i z => by rw [pChc_low (by omega)]; exact h1.2.1 i z, h1.2.2.1, fun c g z => by rw [(pChc_oth (by omega) (by omega)).1]; exact h1.2.2.2 c g z⟩
theorem AC_s {f : Nat} (h1 : AC us h S S1) (hh : 6 * h ≤ f) : AC us h S (ev_pI S1 283 f y) := ⟨fun i z => by rw [rd_nk (by decide)]; exact h1.1 i z, fun i z => by rw [rd_nf (by omega)]; exact h1.2.1 i z, h1.2.2.1, fun c g z => by rw [rd_nk (by omega)]; exact h1.2.2.2 c g z⟩
theorem AC_t (h1 : AC us h S S1) : AC us h S (pRst S1 h2 a b) := AC_i (AC_i (AC_i (AC_i h1)))
theorem AR_i {f : Nat} (h1 : AR vs h ls T T1) (hf : (75 ≤ f ∧ f ≤ 78) ∨ (80 ≤ f ∧ f ≤ 105)) : AR vs h ls T (ev_pI T1 621 f y) := ⟨fun c i y1 y2 z => by rw [rd_nk (by omega)]; exact h1.1 c i y1 y2 z, fun c i y1 y2 z => by rw [rd_nk (by omega)]; exact h1.2.1 c i y1 y2 z, fun c i y1 y2 z => by rw [rd_nk (by omega)]; exact h1.2.2.1 c i y1 y2 z, h1.2.2.2.1, fun c g z1 z2 => by rw [sp_pI1, if_neg (by omega)]; exact h1.2.2.2.2 c g z1 z2⟩
theorem AR_f {nx : Int} (h1 : AR vs h ls T T1) (hv : vs ≤ v) : AR vs h ls T (pFrm T1 v a b c d nx y) := ⟨fun c i y1 y2 z => by rw [pFrm_low ⟨y1, y2⟩ (by omega)]; exact h1.1 c i y1 y2 z, fun c i y1 y2 z => by rw [(pFrm_oth (by omega) (by omega)).1]; exact h1.2.1 c i y1 y2 z, fun c i y1 y2 z => by rw [(pFrm_oth (by omega) (by omega)).1]; exact h1.2.2.1 c i y1 y2 z, h1.2.2.2.1, fun c g z1 z2 => by rw [(pFrm_oth (by omega) (by omega)).1]; exact h1.2.2.2.2 c g z1 z2⟩
theorem AR_h (h1 : AR vs h ls T T1) (hv : h ≤ v) : AR vs h ls T (pRch T1 v a b c) := ⟨fun c i y1 y2 z => by rw [(pRch_oth (by omega) (by omega)).1]; exact h1.1 c i y1 y2 z, fun c i y1 y2 z => by rw [pRch_low ⟨y1, y2⟩ (by omega)]; exact h1.2.1 c i y1 y2 z, fun c i y1 y2 z => by rw [(pRch_oth (by omega) (by omega)).1]; exact h1.2.2.1 c i y1 y2 z, h1.2.2.2.1, fun c g z1 z2 => by rw [(pRch_oth (by omega) (by omega)).1]; exact h1.2.2.2.2 c g z1 z2⟩
theorem AR_t (h1 : AR vs h ls T T1) : AR vs h ls T (pRet T1 v) := by
  unfold pRet
  exact AR_i (AR_i (AR_i (AR_i (AR_i (AR_i (AR_i (AR_i h1 (by omega)) (by omega)) (by omega)) (by omega)) (by omega)) (by omega)) (by omega)) (by omega)
/-- a place of one of the reference's lists that is above the marks -/
theorem AR_w {e f : Nat} (h1 : AR vs h ls T T1) (h3 : (681 ≤ e ∧ e ≤ 686 ∧ vs ≤ f) ∨ (687 ≤ e ∧ e ≤ 695 ∧ h ≤ f) ∨ (696 ≤ e ∧ e ≤ 699 ∧ ls ≤ f)) : AR vs h ls T (ev_pI T1 e f y) := ⟨fun c i y1 y2 z => by rw [sp_pI1, if_neg (by omega)]; exact h1.1 c i y1 y2 z, fun c i y1 y2 z => by rw [sp_pI1, if_neg (by omega)]; exact h1.2.1 c i y1 y2 z, fun c i y1 y2 z => by rw [sp_pI1, if_neg (by omega)]; exact h1.2.2.1 c i y1 y2 z, h1.2.2.2.1, fun c g z1 z2 => by rw [sp_pI1, if_neg (by omega)]; exact h1.2.2.2.2 c g z1 z2⟩
theorem PTRY_m (ha : AC u (h + 1) S S2) (hr : AR v (h + 1) g T T2) (hn : n ≤ n2) (q : PTRY k p N φ ψ own up lo U C V S T h u v g n x ks) : PTRY k p N φ ψ own up lo U C V S2 T2 h u v g n2 x ks := by
  have s : ∀ i, i < 6 → S2.1 283 (6 * h + i) = S.1 283 (6 * h + i) := fun i y => ha.2.1 _ (by omega)
  have r : ∀ c, 687 ≤ c → c ≤ 695 → T2.1 c h = T.1 c h := fun c y1 y2 => hr.2.1 c h y1 y2 (by omega)
  have ch : ∀ f t, CH k p φ ψ U S T u v g h ks f t → CH k p φ ψ U S2 T2 u v g h ks f t := fun f t => CH_m (Nat.le_refl _) (Nat.le_refl _) (Nat.le_refl _) ks h h f t (AC_le ha (Nat.le_refl _) (by omega)) (AR_le hr (Nat.le_refl _) (by omega) (Nat.le_refl _)) (Nat.le_refl h)
  unfold PTRY at q ⊢
  rw [r 687 (by omega) (by omega), r 688 (by omega) (by omega), r 689 (by omega) (by omega), r 692 (by omega) (by omega), s 1 (by omega), s 3 (by omega)]
  rcases q with ⟨y1, i, y2, y3, y4, y5, y6, y7, y8, y9⟩ | ⟨y1, y2, y3, y4, y5⟩ | ⟨y1, m, a, y2, y3, y4, y5, y6, y7, y8, ⟨u0, z1, z2, z3, z4, z5, z6⟩, y9, y10⟩
  · exact Or.inl ⟨y1, i, y2, y3, y4, y5, y6, ch _ _ y7, by omega, by omega⟩
  · exact Or.inr (Or.inl ⟨y1, y2, ch _ _ y3, by omega, by omega⟩)
  · have c : ∀ i, i < 4 → S2.1 282 (u0 + i) = S.1 282 (u0 + i) := fun i y => ha.1 _ (by omega)
    exact Or.inr (Or.inr ⟨y1, m, a, y2, y3, y4, y5, by omega, y7, y8, ⟨u0, z1, z2, by rw [c 1 (by omega)]; exact z3, by rw [c 2 (by omega)]; exact z4, by rw [c 3 (by omega)]; exact z5, by rw [show S2.1 282 u0 = S.1 282 u0 from c 0 (by omega)]; exact ch _ _ z6⟩, by omega, by omega⟩)
theorem PWAL_m (ha : AC u (h + 1) S S2) (hr : AR v (h + 1) g T T2) (hn : n ≤ n2) (q : PWAL k p N φ ψ own up lo U C V S T h u v g n x ks) : PWAL k p N φ ψ own up lo U C V S2 T2 h u v g n2 x ks := by
  have s : ∀ i, i < 6 → S2.1 283 (6 * h + i) = S.1 283 (6 * h + i) := fun i y => ha.2.1 _ (by omega)
  have r : ∀ c, 687 ≤ c → c ≤ 695 → T2.1 c h = T.1 c h := fun c y1 y2 => hr.2.1 c h y1 y2 (by omega)
  have ch : ∀ f t, CH k p φ ψ U S T u v g h ks f t → CH k p φ ψ U S2 T2 u v g h ks f t := fun f t => CH_m (Nat.le_refl _) (Nat.le_refl _) (Nat.le_refl _) ks h h f t (AC_le ha (Nat.le_refl _) (by omega)) (AR_le hr (Nat.le_refl _) (by omega) (Nat.le_refl _)) (Nat.le_refl h)
  unfold PWAL at q ⊢
  rw [r 687 (by omega) (by omega), r 688 (by omega) (by omega), r 689 (by omega) (by omega), r 692 (by omega) (by omega), s 1 (by omega), s 2 (by omega), s 3 (by omega)]
  obtain ⟨m, b, y1, y2, y3, y4, ⟨u0, z1, z2, z3, z4, z5, z6⟩, y5, y6, y7, y8, y9⟩ := q
  have c : ∀ i, i < 4 → S2.1 282 (u0 + i) = S.1 282 (u0 + i) := fun i y => ha.1 _ (by omega)
  exact ⟨m, b, y1, y2, y3, y4, ⟨u0, z1, z2, by rw [c 1 (by omega)]; exact z3, by rw [c 2 (by omega)]; exact z4, by rw [c 3 (by omega)]; exact z5, by rw [show S2.1 282 u0 = S.1 282 u0 from c 0 (by omega)]; exact ch _ _ z6⟩, y5, y6, by omega, fun z => by have := y8 z; omega, fun z y w => by have := y9 z y w; omega⟩
theorem PAIR_m (ha : AC u (h + 1) S S2) (hr : AR v (h + 1) g T T2) (hn : n ≤ n2) (q : PAIR k p N φ ψ own up lo U len x0 C V S T h u v g n) : PAIR k p N φ ψ own up lo U len x0 C V S2 T2 h u v g n2 := by
  have s : ∀ i, i < 6 → S2.1 283 (6 * h + i) = S.1 283 (6 * h + i) := fun i y => ha.2.1 _ (by omega)
  have r : ∀ c, 687 ≤ c → c ≤ 695 → T2.1 c h = T.1 c h := fun c y1 y2 => hr.2.1 c h y1 y2 (by omega)
  unfold PAIR at q ⊢
  rw [r 687 (by omega) (by omega), r 690 (by omega) (by omega), r 691 (by omega) (by omega), r 693 (by omega) (by omega), r 694 (by omega) (by omega), r 695 (by omega) (by omega), show S2.1 283 (6 * h) = S.1 283 (6 * h) from s 0 (by omega), s 2 (by omega), s 4 (by omega), s 5 (by omega)]
  refine ⟨q.1, ?_⟩
  rcases q.2 with y | ⟨ks, x, ng, y1, y2, y3, y4, y5, y6, y7, y8, y9⟩
  · exact Or.inl y
  · refine Or.inr ⟨ks, x, ng, WFL_n hn ks y1, by omega, y3, y4, y5, y6, y7, GL_m ha hr (Nat.le_refl _) (Nat.le_refl _) y8, ?_⟩
    rcases y9 with ⟨z1, z2, z3⟩ | ⟨z1, z2⟩
    · exact Or.inl ⟨z1, z2, PTRY_m ha hr hn z3⟩
    · exact Or.inr ⟨z1, PWAL_m ha hr hn z2⟩
theorem CPS_m (hn : n ≤ n2) : ∀ (h us vs ls us2 vs2 ls2 : Nat), AC us h S S2 → AR vs h ls T T2 → us ≤ us2 → vs ≤ vs2 → ls ≤ ls2 → CPS k p N φ ψ own up lo U len x0 C V S T n h us vs ls → CPS k p N φ ψ own up lo U len x0 C V S2 T2 n2 h us2 vs2 ls2 := fun h => by
  induction h with
  | zero => exact fun _ _ _ _ _ _ _ _ _ _ _ _ => True.intro
  | succ h ih =>
    rintro us vs ls us2 vs2 ls2 ha hr e1 e2 e3 ⟨u, v, g, h1, h2, h3, h4, h5⟩
    exact ⟨u, v, g, by omega, by omega, by omega, PAIR_m (AC_le ha h1 (Nat.le_refl _)) (AR_le hr h2 (Nat.le_refl _) h3) hn h4, ih u v g u v g (AC_le ha h1 (by omega)) (AR_le hr h2 (by omega) h3) (Nat.le_refl _) (Nat.le_refl _) (Nat.le_refl _) h5⟩
/-- the ground both stand on -/
def BAS (k p : Nat) (U : ev_St) (w len : Nat) (S T : ev_St) : Prop := CLs U S ∧ RFs U T ∧ (S.2.2.1 281 0 = k + 1 ∧ S.2.2.1 281 1 = w + 1) ∧ T.1 621 79 = ((320 * p : Nat) : Int) ∧ T.1 621 73 = (len : Int) ∧ ∀ i, i < len → T.1 678 i = U.1 (w + 1) i
theorem BAS_m (hb : BAS k p U w len S T) (ha : AC us h S S2) (hr : AR vs h ls T T2) : BAS k p U w len S2 T2 := by
  obtain ⟨⟨a1, a2, a3⟩, ⟨b1, b2⟩, c1, c2, c3, c4⟩ := hb
  refine ⟨⟨fun c g y1 y2 => by rw [ha.2.2.2 c g y2]; exact a1 c g y1 y2, fun c g y => by rw [ha.2.2.1]; exact a2 c g y, fun c g y => by rw [ha.2.2.1]; exact a3 c g y⟩, ⟨fun c g y1 y2 y3 y4 => by rw [hr.2.2.2.2 c g (by omega) (by omega)]; exact b1 c g y1 y2 y3 y4, fun c g y => by rw [hr.2.2.2.1]; exact b2 c g y⟩, by rw [ha.2.2.1]; exact c1, by rw [hr.2.2.2.2 _ _ (by omega) (by omega)]; exact c2, by rw [hr.2.2.2.2 _ _ (by omega) (by omega)]; exact c3, fun i hi => by rw [hr.2.2.2.2 _ _ (by omega) (by omega)]; exact c4 i hi⟩
/-- both machines at one point -/
def COR (k p N : Nat) (φ ψ own up lo : Nat → Nat) (U : ev_St) (w len x0 : Nat) (C : Int) (V : Nat → Nat → Nat → List KT → Nat → Int) (S T : ev_St) (ks : List KT) (x n us h vs ls : Nat) : Prop := BAS k p U w len S T ∧ (S.1 281 3 = (x : Int) ∧ S.1 281 7 = (us : Int) ∧ S.1 281 9 = (h : Int) ∧ S.1 281 10 = 0 ∧ S.1 281 14 = (n : Int) ∧ S.1 281 11 = (x0 : Int)) ∧ (T.1 621 75 = (n : Int) ∧ T.1 621 76 = 0 ∧ T.1 621 81 = (x : Int) ∧ T.1 621 84 = ((dOf ks + 64 * lOf ks : Nat) : Int) ∧ T.1 621 88 = (vs : Int) ∧ T.1 621 95 = (h : Int) ∧ T.1 621 105 = (ls : Int)) ∧ (x ≤ len ∧ n ≤ 1000 ∧ (ls = 0 ∨ 4 * ls + 4 ≤ us) ∧ dOf ks ≤ 20 ∧ lOf ks ≤ 40 ∧ h + rkOf ks ≤ n ∧ okp x0 ks x) ∧ WFL k p N φ ψ up U len n ks ∧ CH k p φ ψ U S T us vs ls h ks (S.1 281 4) (T.1 621 83) ∧ (∃ ng, ng ≤ ls ∧ GL S T us ls ng (S.1 281 5) (T.1 621 82)) ∧ CPS k p N φ ψ own up lo U len x0 C V S T n h us vs ls
/-- both machines as the last choice is to be taken up -/
def COB (k p N : Nat) (φ ψ own up lo : Nat → Nat) (U : ev_St) (w len x0 : Nat) (C : Int) (V : Nat → Nat → Nat → List KT → Nat → Int) (S T : ev_St) (n us h vs ls : Nat) : Prop := BAS k p U w len S T ∧ (S.1 281 9 = (h : Int) ∧ S.1 281 10 = 0 ∧ S.1 281 14 = (n : Int) ∧ S.1 281 11 = (x0 : Int)) ∧ (T.1 621 75 = (n : Int) ∧ T.1 621 76 = 0 ∧ T.1 621 95 = (h : Int)) ∧ (n ≤ 1000 ∧ h ≤ n ∧ ∃ uu : Nat, S.1 281 7 = (uu : Int) ∧ us ≤ uu ∧ uu ≤ 76072) ∧ CPS k p N φ ψ own up lo U len x0 C V S T n h us vs ls
theorem COR_k (hc : COR k p N φ ψ own up lo U w len x0 C V S T ks x n us h vs ls) (ha : AC us h S S2) (hr : AR vs h ls T T2) (hn : n ≤ n2) (hu : us ≤ us2) (hv : vs ≤ vs2) (hl : ls ≤ ls2) : BAS k p U w len S2 T2 ∧ WFL k p N φ ψ up U len n2 ks ∧ (∀ h2 ks f t, h ≤ h2 → CH k p φ ψ U S T us vs ls h ks f t → CH k p φ ψ U S2 T2 us2 vs2 ls2 h2 ks f t) ∧ (∀ ng x y, GL S T us ls ng x y → GL S2 T2 us2 ls2 ng x y) ∧ CPS k p N φ ψ own up lo U len x0 C V S2 T2 n2 h us2 vs2 ls2 := by
  obtain ⟨h1, h2, h3, h4, h5, h6, h7, h8⟩ := hc
  exact ⟨BAS_m h1 ha hr, WFL_n hn ks h5, fun h2 ks f t hh q => CH_m hu hv hl ks h h2 f t ha hr hh q, fun ng x y q => GL_m ha hr hu hl q, CPS_m hn h us vs ls us2 vs2 ls2 ha hr hu hv hl h8⟩
end OPZD
