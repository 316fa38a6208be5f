/-! FACTS: the class keeps what it learned of a pattern -/
section KEEPC
variable {Q k g b N M m t p f : Nat} {φ ψ own up : Nat → Nat} {S S2 T T2 U V : ev_St} {W : Nat → FV} {CA CI : Nat → List INS}
theorem TIE_c1 (h : TIE k N φ ψ up S T) (hN : 0 < N) (hV : ∀ m t : Nat, m < N → T.1 626 (3840 + m) = (t : Int) → t < N) (s1 : ∀ j b, 1 ≤ j → j ≤ 11 → S2.1 (k + j) b = S.1 (k + j) b) (t1 : ∀ c m, 625 ≤ c → c ≤ 632 → m < N → T2.1 c (3840 + m) = T.1 c (3840 + m)) : TIE k N φ ψ up S2 T2 := by
  obtain ⟨h1, h2, h3, h4, h5⟩ := h
  refine ⟨fun t ht h0 h18 => ?_, fun t ht h18 => ?_, fun t ht hk => ?_, fun t ht => ⟨fun hr => ?_, fun hr => ?_⟩, by rw [s1 7 _ (by omega) (by omega)]; exact h5.1, by rw [nrc_c (f := Kn T) (f' := Kn T2) N (fun m hm => t1 625 m (by omega) (by omega) hm)]; exact h5.2⟩
  · rw [t1 625 t (by omega) (by omega) ht] at h18
    rw [s1 7 _ (by omega) (by omega), t1 627 t (by omega) (by omega) ht]
    exact h1 t ht h0 h18
  · rw [t1 625 t (by omega) (by omega) ht] at h18
    rw [s1 6 _ (by omega) (by omega), t1 626 t (by omega) (by omega) ht]
    exact h2 t ht h18
  · rw [t1 625 t (by omega) (by omega) ht] at hk
    have hc : (T.1 626 (3840 + t)).toNat < N := by
      by_cases z : 0 ≤ T.1 626 (3840 + t)
      · exact hV t _ ht (by omega)
      · omega
    rw [s1 6 _ (by omega) (by omega), t1 626 t (by omega) (by omega) ht, t1 627 _ (by omega) (by omega) hc, s1 6 _ (by omega) (by omega)]
    exact h3 t ht hk
  · rw [t1 630 t (by omega) (by omega) ht] at hr
    rw [s1 7 _ (by omega) (by omega)]
    exact (h4 t ht).1 hr
  · rw [t1 630 t (by omega) (by omega) ht] at hr
    obtain ⟨x, y, e1, e2, e3, e4, e5⟩ := (h4 t ht).2 hr
    exact ⟨x, y, by rw [s1 4 _ (by omega) (by omega)]; exact e1, by rw [s1 4 _ (by omega) (by omega)]; exact e2, by rw [s1 7 _ (by omega) (by omega)]; exact e3, by rw [s1 7 _ (by omega) (by omega)]; exact e4, by rw [s1 6 _ (by omega) (by omega)]; exact e5⟩
theorem FINX_c1 (h : FINX k N M φ ψ own up S T) (s0 : ∀ g, g = 11 ∨ g = 12 → S2.1 k g = S.1 k g) (s1 : ∀ j b, 1 ≤ j → j ≤ 11 → S2.1 (k + j) b = S.1 (k + j) b) (s2 : ∀ j b, 8 ≤ j → j ≤ 9 → S2.2.1 (k + j) b = S.2.1 (k + j) b) (t1 : ∀ c m, 625 ≤ c → c ≤ 632 → m < N → T2.1 c (3840 + m) = T.1 c (3840 + m)) (t2 : ∀ c m, 633 ≤ c → c ≤ 634 → m < N → T2.2.1 c (3840 + m) = T.2.1 c (3840 + m)) (t5 : ∀ c, c = 635 ∨ c = 636 → T2.1 c 12 = T.1 c 12) (t7 : ∀ j, j ≤ 9 → T2.1 637 (120 + j) = T.1 637 (120 + j)) (t8 : ∀ l, l < 26 → T2.1 638 (312 + l) = T.1 638 (312 + l)) : FINX k N M φ ψ own up S2 T2 := by
  obtain ⟨⟨a1, a2, a3, a4, a5⟩, ⟨b1, b2, b3, b4⟩, ⟨c1, c2, c3⟩, d, e, ⟨f1, f2⟩, g, y, h1, h2, lo, h3⟩ := h
  have hN : 0 < N := a1.2.2.1
  refine ⟨⟨FIN_c2 a1 (fun j b x y => s1 j b x (by omega)) s2 t1 t2, UPf_c a2 (fun m hm => ?_) (fun b _ => s1 4 b (by omega) (by omega)) (fun m c hm hc => t1 c m (by omega) (by omega) hm), fun m hm h18 => ?_, ⟨fun m hm => RV1_c (a4.1 m hm) (fun c x y _ _ => t1 c m x y hm) ⟨by rw [t5 636 (Or.inr rfl)]; exact Int.le_refl _, fun j j1 j2 => t7 j (by omega)⟩, RVl_c a4.2 (fun m c hm hc => t1 c m (by omega) (by omega) hm)⟩, TIE_c1 a5 hN (fun m t hm ht => (a4.2 m hm).1 t (Or.inl ht) |>.2) s1 t1⟩, ⟨by rw [s0 11 (Or.inl rfl)]; exact b1, b2, by rw [t5 635 (Or.inl rfl)]; exact b3, b4⟩, ?_, fun l hl => ?_, fun j j1 j2 => ?_, ⟨by rw [show T2.1 637 120 = T.1 637 120 from t7 0 (by omega)]; exact f1, by rw [s1 10 _ (by omega) (by omega)]; exact f2⟩, fun m hm => ?_, y, fun m hm h18 h0 => ?_, fun m t hm h18 hx => ?_, lo, LOf_c h3 (fun m c hm hc => t1 c m (by omega) (by omega) hm)⟩
  · by_cases z : m = 0
    · subst z
      rw [a1.2.1.2.1]
      exact a1.2.1.1
    · exact (a1.1 m hm z).1.2.1
  · rw [t1 625 m (by omega) (by omega) hm] at h18
    rw [t1 630 m (by omega) (by omega) hm]
    exact a3 m hm h18
  · rw [s0 12 (Or.inr rfl), t5 636 (Or.inr rfl)]
    exact ⟨c1, c2, c3⟩
  · rw [s1 11 _ (by omega) (by omega), t8 l hl, t5 636 (Or.inr rfl)]
    exact d l hl
  · rw [t5 636 (Or.inr rfl)] at j2
    obtain ⟨t, e1, e2, e3, e4, e5⟩ := e j j1 j2
    exact ⟨t, by rw [t7 j (by omega)]; exact e1, e2, by rw [t1 625 t (by omega) (by omega) e2]; exact e3, by rw [t1 628 t (by omega) (by omega) e2]; exact e4, by rw [s1 10 _ (by omega) (by omega)]; exact e5⟩
  · rw [t1 625 m (by omega) (by omega) hm, t1 628 m (by omega) (by omega) hm, t5 636 (Or.inr rfl)]
    exact g m hm
  · rw [t1 625 m (by omega) (by omega) hm] at h18 ⊢
    exact h1 m hm h18 h0
  · rw [t1 625 m (by omega) (by omega) hm] at h18 ⊢
    rw [t1 627 m (by omega) (by omega) hm] at hx
    exact h2 m t hm h18 hx
theorem WQ_S (e1 : S2.1 (k + 1) = S.1 (k + 1)) (e4 : S2.1 (k + 4) = S.1 (k + 4)) (e5 : S2.1 (k + 5) = S.1 (k + 5)) (e8 : S2.2.1 (k + 8) = S.2.1 (k + 8)) (e9 : S2.2.1 (k + 9) = S.2.1 (k + 9)) (h : WQ k N M φ ψ S T W b) : WQ k N M φ ψ S2 T W b := by
  unfold WQ EQa at h ⊢
  rw [e1, e4, e8, e9]
  exact h
theorem litF_c {n : Nat} (e1 : S2.1 (k + 1) = S.1 (k + 1)) (e4 : S2.1 (k + 4) = S.1 (k + 4)) (e5 : S2.1 (k + 5) = S.1 (k + 5)) (e6 : S2.1 (k + 6) = S.1 (k + 6)) (e7 : S2.1 (k + 7) = S.1 (k + 7)) (e8 : S2.2.1 (k + 8) = S.2.1 (k + 8)) (e9 : S2.2.1 (k + 9) = S.2.1 (k + 9)) : ∀ (c : Int) (run best : List Int), litF k M S2 n c run best = litF k M S n c run best := by
  have on : onlyC k M S2 = onlyC k M S := by
    funext a
    unfold onlyC rowC
    rw [e4, e5]
  have nx : nxC k M S2 = nxC k M S := by
    funext a
    unfold nxC opC
    rw [e1, on, e6, e7]
  induction n with
  | zero => exact fun _ _ _ => rfl
  | succ n ih =>
    intro c run best
    unfold litF oneC opC
    rw [on, nx, e1, e8, e9]
    simp only [ih]
theorem litR_c (e1 : S2.1 (k + 1) = S.1 (k + 1)) (e4 : S2.1 (k + 4) = S.1 (k + 4)) (e5 : S2.1 (k + 5) = S.1 (k + 5)) (e6 : S2.1 (k + 6) = S.1 (k + 6)) (e7 : S2.1 (k + 7) = S.1 (k + 7)) (e10 : S2.1 (k + 10) = S.1 (k + 10)) (e8 : S2.2.1 (k + 8) = S.2.1 (k + 8)) (e9 : S2.2.1 (k + 9) = S.2.1 (k + 9)) : litR k M S2 = litR k M S := by
  have on : onlyC k M S2 = onlyC k M S := by
    funext a
    unfold onlyC rowC
    rw [e4, e5]
  unfold litR
  rw [litF_c e1 e4 e5 e6 e7 e8 e9, on, e10, e6]
def eng29 (Q : Nat) (x16 : Int) (V : ev_St) : Option (Unit × ev_St) := ev_b (V.2.2.1 221 9) fun r48 => ev_if ((0 : Int) ≤ x16 ∧ x16 < (ev_aln 223 : Int)) (ev_b (V.1 223 (Int.toNat x16)) fun x49 => ev_jn (fun (x51 : Int) (r50 : Nat) (s54 : ev_St) => ev_if (r50 ≠ 0) (ev_if (ev_bl x51) (ev_b (ev_pI s54 ((r50 - 1)) 14 x51) fun s56 => ev_b (s56.2.2.1 221 9) fun r58 => ev_b (s56.2.2.1 221 9) fun r59 => ev_if (r59 ≠ 0) (ev_b (s56.1 ((r59 - 1)) 14) fun x61 => ev_jn (fun (x63 : Int) (r62 : Nat) (s66 : ev_St) => ev_if (r62 ≠ 0) (ev_if (ev_bl x63) (ev_b (ev_pI s66 ((r62 - 1)) 15 x63) fun s68 => ev_b (s68.2.2.1 221 9) fun r70 => ev_if (r70 ≠ 0) (ev_b (s68.1 ((r70 - 1)) 14) fun x72 => if x72 = 0 then (some ((), s68)) else (ev_b (s68.2.2.1 221 9) fun r74 => ev_if (r74 ≠ 0) (ev_b (s68.2.2.1 221 9) fun r76 => ev_bd (jm_71 Q (((r74 - 1) + 12)) r76 ((228 + 1)) ((229 + 1)) s68) fun _ s77 => some ((), s77))))))) fun K190 => ev_jn (fun (r78 : Nat) (s81 : ev_St) => K190 0 r78 s81) fun K189 => if x61 = 0 then (K189 r58 s56) else (ev_bd (jm_39 Q  s56) fun x84 s83 => if x84 ≠ 0 then (K189 r58 s83) else (K190 1 r58 s83)))))) fun K161 => ev_jn (fun (r86 : Nat) (s89 : ev_St) => K161 0 r86 s89) fun K160 => if 200 < x49 then (K160 r48 V) else (ev_bd (jm_38 Q  V) fun x92 s91 => if x92 = 0 then (K160 r48 s91) else (K161 1 r48 s91)))
def num29 (k f : Nat) (V : ev_St) : ev_St := ev_pI (ev_pL (ev_pL (ev_pI V k 16 (V.1 222 f)) k 17 (V.2.1 224 (2 * f))) k 18 (V.2.1 224 (2 * f + 1))) k 19 (lowC (V.2.1 227 (2 * f)) (V.2.1 227 (2 * f + 1)) 128 0)
theorem aft_a (hQ : 400 ≤ Q) (hk : ev_isOb k 5 = true) (hkr : 232 ≤ k) (hr : V.2.2.1 221 9 = k + 1) (h11 : V.1 k 11 = (M : Int)) (hM : M ≤ 400) (h10 : V.1 (k + 10) 0 = (f : Int)) (hf : f < M) : aft29 Q V = ev_bd (jm_40 Q (num29 k f V)) fun _ s47 => eng29 Q (f : Int) s47 := by
  obtain ⟨l1, l2, l3, l4, l5, l6⟩ := al_G
  have lB := (al_B hk).1
  have c60 : ∀ U : ev_St, U.1 (k + 10) 0 = (f : Int) → jm_60 Q k U = some ((f : Int), U) := fun U h => by
    unfold jm_60
    rw [sp_if (by rw [lB]; omega), sp_b, show (Int.toNat 0) = 0 from rfl, h]
  have e : (0 ≤ (f : Int) ∧ (f : Int) < V.1 k 11 ∧ (f : Int) < 400) := by omega
  unfold aft29
  rw [sp_b, hr, sp_if (by omega), show k + 1 - 1 = k from rfl, c60 V h10, sp_bd, sp_b, hr, sp_if (by omega), show k + 1 - 1 = k from rfl, sp_59, sp_bd, if_pos (show (if 0 ≤ (f : Int) ∧ (f : Int) < V.1 k 11 ∧ (f : Int) < 400 then (1 : Int) else 0) ≠ 0 by rw [if_pos e]; decide), sp_b, hr, sp_if (by rw [l1]; omega), sp_b, Int.toNat_natCast, sp_if (by omega), show k + 1 - 1 = k from rfl, sp_b, sp_b]
  rw [show (ev_pI V k 16 (V.1 222 f)).2.2.1 221 9 = k + 1 from hr, sp_ck (by omega), sp_if (by rw [l3]; omega), show (2 * (f : Int)).toNat = 2 * f from by omega, sp_b, sp_if (by omega), show k + 1 - 1 = k from rfl, sp_b, sp_b]
  rw [show (ev_pL (ev_pI V k 16 (V.1 222 f)) k 17 ((ev_pI V k 16 (V.1 222 f)).2.1 224 (2 * f))).2.2.1 221 9 = k + 1 from hr, sp_ck (by omega), sp_ck (by omega), sp_if (by rw [l3]; omega), show (2 * (f : Int) + 1).toNat = 2 * f + 1 from by omega, sp_b, sp_if (by omega), show k + 1 - 1 = k from rfl, sp_b, rdL_nk (by omega), sp_pI2, sp_b]
  rw [show (ev_pL (ev_pL (ev_pI V k 16 (V.1 222 f)) k 17 (V.2.1 224 (2 * f))) k 18 (V.2.1 224 (2 * f + 1))).2.2.1 221 9 = k + 1 from hr, sp_ck (by omega), sp_if (by rw [l6]; omega), sp_b, sp_ck (by omega), sp_ck (by omega), sp_if (by rw [l6]; omega), sp_b, show (2 * (f : Int)).toNat = 2 * f from by omega, show (2 * (f : Int) + 1).toNat = 2 * f + 1 from by omega, sp_30 hQ, sp_bd, sp_if (by omega), show k + 1 - 1 = k from rfl, sp_b, rdL_nk (by omega), rdL_nk (by omega), rdL_nk (by omega), rdL_nk (by omega), sp_pI2]
  rfl
theorem en_no {V0 : ev_St} (hr : V.2.2.1 221 9 = k + 1) (hf : f < 400) (h : 200 < V.1 223 f ∨ jm_38 Q V = some (0, V)) (hV : V0 = ev_pI (ev_pI V k 14 0) k 15 0) : eng29 Q (f : Int) V = some ((), V0) := by
  obtain ⟨l1, l2, l3, l4, l5, l6⟩ := al_G
  subst hV
  have tl : ∀ JJ : Int → Nat → ev_St → Option (Unit × ev_St), ev_jn JJ (fun K161 => ev_jn (fun (r86 : Nat) (s89 : ev_St) => K161 0 r86 s89) fun K160 => if 200 < V.1 223 f then (K160 (k + 1) V) else (ev_bd (jm_38 Q V) fun x92 s91 => if x92 = 0 then (K160 (k + 1) s91) else (K161 1 (k + 1) s91))) = JJ 0 (k + 1) V := fun JJ => by
    rw [sp_jn, sp_jn]
    by_cases z : 200 < V.1 223 f
    · rw [if_pos z]
    · rw [if_neg z, h.resolve_left z, sp_bd, if_pos rfl]
  unfold eng29
  rw [sp_b, hr, sp_if (by rw [l2]; omega), sp_b, Int.toNat_natCast, tl]
  try dsimp only
  rw [sp_if (by omega), sp_if (Or.inl rfl), show k + 1 - 1 = k from rfl, sp_b, sp_b, sp_b, show (ev_pI V k 14 0).2.2.1 221 9 = k + 1 from hr, sp_if (by omega), show k + 1 - 1 = k from rfl, sp_b, rd_eq, sp_jn, sp_jn, if_pos rfl]
  try dsimp only
  rw [sp_if (by omega), sp_if (Or.inl rfl), show k + 1 - 1 = k from rfl, sp_b, sp_b, show (ev_pI (ev_pI V k 14 0) k 15 0).2.2.1 221 9 = k + 1 from hr, sp_if (by omega), show k + 1 - 1 = k from rfl, sp_b, rd_nf (by decide), rd_eq, if_pos rfl]
theorem en_yes {u : Int} {V0 : ev_St} (hr : V.2.2.1 221 9 = k + 1) (hf : f < 400) (h : ¬ 200 < V.1 223 f) (h8 : jm_38 Q V = some (1, V)) (h9 : jm_39 Q (ev_pI V k 14 1) = some (u, ev_pI V k 14 1)) (hu : u = 0 ∨ u = 1) (hV : V0 = ev_pI (ev_pI V k 14 1) k 15 (1 - u)) : eng29 Q (f : Int) V = ev_bd (jm_71 Q (k + 12) (k + 1) (228 + 1) (229 + 1) V0) fun _ s77 => some ((), s77) := by
  obtain ⟨l1, l2, l3, l4, l5, l6⟩ := al_G
  subst hV
  have tl : ∀ JJ : Int → Nat → ev_St → Option (Unit × ev_St), ev_jn JJ (fun K161 => ev_jn (fun (r86 : Nat) (s89 : ev_St) => K161 0 r86 s89) fun K160 => if 200 < V.1 223 f then (K160 (k + 1) V) else (ev_bd (jm_38 Q V) fun x92 s91 => if x92 = 0 then (K160 (k + 1) s91) else (K161 1 (k + 1) s91))) = JJ 1 (k + 1) V := fun JJ => by
    rw [sp_jn, sp_jn, if_neg h, h8, sp_bd, if_neg (by decide)]
  have tm : ∀ JJ : Int → Nat → ev_St → Option (Unit × ev_St), ev_jn JJ (fun K190 => ev_jn (fun (r78 : Nat) (s81 : ev_St) => K190 0 r78 s81) fun K189 => if (1 : Int) = 0 then (K189 (k + 1) (ev_pI V k 14 1)) else (ev_bd (jm_39 Q (ev_pI V k 14 1)) fun x84 s83 => if x84 ≠ 0 then (K189 (k + 1) s83) else (K190 1 (k + 1) s83))) = JJ (1 - u) (k + 1) (ev_pI V k 14 1) := fun JJ => by
    rw [sp_jn, sp_jn, if_neg (by decide), h9, sp_bd]
    rcases hu with z | z
    · rw [z, if_neg (fun y => y rfl)]
      rfl
    · rw [z, if_pos (by decide)]
      rfl
  unfold eng29
  rw [sp_b, hr, sp_if (by rw [l2]; omega), sp_b, Int.toNat_natCast, tl]
  try dsimp only
  rw [sp_if (by omega), sp_if (Or.inr rfl), show k + 1 - 1 = k from rfl, sp_b, sp_b, sp_b, show (ev_pI V k 14 1).2.2.1 221 9 = k + 1 from hr, sp_if (by omega), show k + 1 - 1 = k from rfl, sp_b, rd_eq, tm]
  try dsimp only
  rw [sp_if (by omega), sp_if (by unfold ev_bl; omega), show k + 1 - 1 = k from rfl, sp_b, sp_b, show (ev_pI (ev_pI V k 14 1) k 15 (1 - u)).2.2.1 221 9 = k + 1 from hr, sp_if (by omega), show k + 1 - 1 = k from rfl, sp_b, rd_nf (by decide), rd_eq, if_neg (by decide), sp_b, sp_if (by omega), show k + 1 - 1 = k from rfl, sp_b]
end KEEPC
