/-! MENDING: a search in the text that is mended, on both sides -/
section OSC
variable {Q p k t n m i j len w s : Nat} {S S1 S2 S' T T1 T2 T' U V : ev_St} {a c d e f v x y md : Int}
/-- one place of a search, whatever the text -/
theorem SIM_w (hK : sp_PT U) (hQ : 40000000000 ≤ Q) (hp : (p : Int) < U.1 0 5) (hob : ev_isOb w 10 = true) (hw : w < 280) (hl : U.1 w 1 = (len : Int)) (hlen : len ≤ 160) (sg : ∀ i, i < len → sp_sign (U.1 (w + 1) i) = 1) : SIM Q p (313 + 20 * p) w len (SB0 U w len) (SR0 U (313 + 20 * p) w len) := by
  have hp2 : p < 12 := by have := hK.1; omega
  obtain ⟨N, M, φ, ψ, own, up, lo, hA⟩ := STA_of (hK.2 p hp) hp2 rfl
  obtain ⟨V, v1, v2⟩ := POTX_of (len := len) hA
  obtain ⟨k, hk⟩ : ∃ k, k = 313 + 20 * p := ⟨_, rfl⟩
  rw [← hk] at hA ⊢
  have hX : FIX Q k p N M φ ψ own up lo U w len 980 V := ⟨hA, v1, ⟨hob, sp_len_text hob, by omega, hl, hlen, sg⟩, Int.le_refl _, by omega⟩
  refine ⟨fun S T h => ⟨h.1, ?_, h.2.1.2⟩, fun S T h => ⟨?_, h.2.2.1⟩, fun S T T2 h e1 e2 => ⟨h.1, ⟨fun c g y1 y2 y3 y4 => ?_, fun c g y => ?_⟩, ?_, fun i hi => ?_⟩, fun S T h => ⟨⟨CLs_w (CLs_w (CLs_r (CLs_r h.1))), RFs_w (RFs_w h.2.1 (by omega)) (by omega), ?_, fun i hi => ?_⟩, ⟨?_, ?_⟩, ⟨0, Nat.zero_le _, ?_, ?_⟩, ?_, ?_⟩, fun S T x h hx hx2 => ?_⟩
  · obtain ⟨n, _, y1, y2⟩ := h.2.2.1
    omega
  · rw [h.1.1 w 1 (by omega) (by omega)]
    exact hl
  · rw [e1 c g (by omega) (by omega)]
    exact h.2.1.1 c g y1 y2 y3 y4
  · rw [e2]
    exact h.2.1.2 c g y
  · rw [e1 _ _ (by decide) (by decide)]
    exact h.2.2.1
  · rw [e1 _ _ (by decide) (by decide)]
    exact h.2.2.2 i hi
  · rw [sp_pI1, if_neg (by omega), sp_pI1, if_neg (by omega)]
    exact h.2.2.1
  · rw [rd_nk (by decide), rd_nk (by decide)]
    exact h.2.2.2 i hi
  · rfl
  · rfl
  · rfl
  · rfl
  · rfl
  · rfl
  · obtain ⟨⟨h1, h2, h3, h4⟩, h5, ⟨n, n1, n2, n3⟩, h6, h7⟩ := h
    obtain ⟨x, rfl⟩ : ∃ y : Nat, x = (y : Int) := ⟨x.toNat, by omega⟩
    obtain ⟨rc, rr, S2, T2, g1, g2, g3⟩ := place_go (x := x) hX v2 hQ h1 h2 h5 ⟨h3, h4⟩ n1 h6 n2 n3 h7 (by omega)
    obtain ⟨f1, f2⟩ := run_fr g1 h1
    obtain ⟨f3, f4, f5⟩ := ref_fr g2 h2
    have hb2 : SB0 U w len S2 T2 := ⟨f1, f3, by rw [f4]; exact h3, fun i hi => by rw [f5]; exact h4 i hi⟩
    refine ⟨rc, rr, S2, T2, g1, g2, ?_⟩
    rcases g3 with ⟨y1, y2⟩ | ⟨y1, y2, y3, y4⟩
    · exact Or.inl ⟨y1, y2, hb2⟩
    · exact Or.inr ⟨y1, ⟨hb2, ⟨by rw [f2]; exact h5.1, by rw [f2]; exact h5.2⟩, y3, y1, y2⟩, y4⟩
/-- the search's own references stay -/
theorem l115_ref : ∀ (q : Nat) (x i : Int) (S : ev_St) (v : Int) (S2 : ev_St), jl_115_12 Q q x i S = some (v, S2) → S2.2.2.1 = S.2.2.1 := fun q => by
  induction q with
  | zero => exact fun x i S v S2 h => by cases h
  | succ q ih =>
    intro x i S v S2 h
    have h : jb_115_12 Q (jl_115_12 Q q) x i S = some (v, S2) := h
    unfold jb_115_12 at h
    simp only [sp_b, sp_jn] at h
    unfold ev_if ev_ck at h
    cases e : jm_122 Q x S with
    | none =>
      rw [e] at h
      (repeat' split at h) <;> first | (cases h; done) | (injection h with h; injection h with _ h2; rw [← h2])
    | some w =>
      obtain ⟨y, S3⟩ := w
      have fr : S3.2.2.1 = S.2.2.1 := by
        obtain ⟨_, _, a3, _⟩ := (ef_122 (Q := Q) (S := S)) _ _ e
        funext c
        funext g
        exact a3 c g (wm_by (C := fun _ => false) (D := fun _ _ => false) (by decide) rfl rfl)
      rw [e] at h
      simp only [sp_bd] at h
      (repeat' split at h) <;> first | (cases h; done) | exact (ih _ _ _ _ _ h).trans fr | (injection h with h; injection h with _ h2; rw [← h2]; done) | (injection h with h; injection h with _ h2; rw [← h2]; exact fr)
theorem j115_ref {k w : Nat} (h : jm_115 Q (k + 1) (w + 1) x S = some (v, S2)) : S2.2.2.1 281 0 = k + 1 ∧ S2.2.2.1 281 1 = w + 1 := by
  have h : jl_115_12 Q Q x 0 (ev_pI (ev_pI (ev_pR (ev_pR S 281 0 (k + 1)) 281 1 (w + 1)) 281 14 0) 281 10 0) = some (v, S2) := h
  have q := l115_ref _ _ _ _ _ _ h
  rw [q]
  exact ⟨rfl, rfl⟩
/-- class's cells and the reference's in one state -/
def mrg (S T : ev_St) : ev_St := (fun c g => if 621 ≤ c ∧ c < 723 then T.1 c g else S.1 c g, S.2)
theorem mC {c g : Nat} (h : ¬ (621 ≤ c ∧ c < 723)) : (mrg S T).1 c g = S.1 c g := if_neg h
theorem mR {c g : Nat} (h : 621 ≤ c ∧ c < 723) : (mrg S T).1 c g = T.1 c g := if_pos h
/-- what mending finds: pattern, text, template -/
def PRC (p t len n : Nat) (S T : ev_St) : Prop := (sp_PT (mrg S T) ∧ (p : Int) < S.1 0 5) ∧ (∀ c g, c ≠ 723 → T.2.1 c g = S.2.1 c g) ∧ (S.1 270 1 = (len : Int) ∧ T.1 621 73 = (len : Int) ∧ len ≤ 80 ∧ ∀ i, i < len → S.1 271 i = T.1 678 i ∧ sp_sign (S.1 271 i) = 1) ∧ (t < 8 ∧ S.1 (553 + 2 * t) 1 = (n : Int) ∧ n ≤ 120 ∧ ∀ g, g < n → T.1 700 (120 * t + g) = S.1 (553 + 2 * t + 1) g ∧ sp_sign (S.1 (553 + 2 * t + 1) g) = 1) ∧ T.1 701 t = (n : Int) ∧ tl_v (sp_at S (553 + 2 * t)) (n : Int) 130 0 0
def FPs (S S' : ev_St) : Prop := (∀ c g, ¬ (272 ≤ c ∧ c ≤ 276) → ¬ (281 ≤ c ∧ c ≤ 283) → ¬ (c = 269 ∧ g = 11) → S'.1 c g = S.1 c g) ∧ (∀ c g, S'.2.1 c g = S.2.1 c g) ∧ (∀ c g, c ≠ 281 → S'.2.2.1 c g = S.2.2.1 c g) ∧ S'.2.2.2 = S.2.2.2
def FPt (T T' : ev_St) : Prop := (∀ c g, ¬ (c = 621 ∧ ((74 ≤ g ∧ g ≤ 105) ∨ g = 113)) → ¬ (679 ≤ c ∧ c ≤ 699) → ¬ (702 ≤ c ∧ c ≤ 705) → c ≠ 678 → T'.1 c g = T.1 c g) ∧ (∀ c g, T'.2.1 c g = T.2.1 c g) ∧ (∀ c g, T'.2.2.1 c g = T.2.2.1 c g) ∧ T'.2.2.2 = T.2.2.2
theorem FPs_r : FPs S S := ⟨fun _ _ _ _ _ => rfl, fun _ _ => rfl, fun _ _ _ => rfl, rfl⟩
theorem FPt_r : FPt T T := ⟨fun _ _ _ _ _ _ => rfl, fun _ _ => rfl, fun _ _ => rfl, rfl⟩
theorem FPs_t (h : FPs S S2) (g : FPs S2 S') : FPs S S' := ⟨fun c i a b d => (g.1 c i a b d).trans (h.1 c i a b d), fun c i => (g.2.1 c i).trans (h.2.1 c i), fun c i y => (g.2.2.1 c i y).trans (h.2.2.1 c i y), g.2.2.2.trans h.2.2.2⟩
theorem FPt_t (h : FPt T T2) (g : FPt T2 T') : FPt T T' := ⟨fun c i a b d e => (g.1 c i a b d e).trans (h.1 c i a b d e), fun c i => (g.2.1 c i).trans (h.2.1 c i), fun c i => (g.2.2.1 c i).trans (h.2.2.1 c i), g.2.2.2.trans h.2.2.2⟩
theorem FPs_m (h : FRmS S S') : FPs S S' := ⟨fun c g a b d => h.1 c g (by omega) (by omega) d, fun _ _ => by rw [h.2], fun _ _ _ => by rw [h.2], by rw [h.2]⟩
theorem FPt_m (h : FRmT T T') : FPt T T' := ⟨fun c g a b d e => h.1 c g (by omega) (by omega), fun _ _ => by rw [h.2], fun _ _ => by rw [h.2], by rw [h.2]⟩
theorem FPs_w {c g : Nat} {v : Int} (h : 274 ≤ c ∧ c ≤ 276) : FPs S (ev_pI S c g v) := ⟨fun x i y _ _ => by rw [sp_pI1, if_neg (by omega)], fun _ _ => rfl, fun _ _ _ => rfl, rfl⟩
theorem FPt_w {c g : Nat} {v : Int} (h : 703 ≤ c ∧ c ≤ 705) : FPt T (ev_pI T c g v) := ⟨fun x i _ _ y _ => by rw [sp_pI1, if_neg (by omega)], fun _ _ => rfl, fun _ _ => rfl, rfl⟩
theorem PRC_c (h : PRC p t len n S T) (h1 : FPs S S') (h2 : FPt T T') (h73 : T'.1 621 73 = T.1 621 73) (h78 : ∀ i, i < len → T'.1 678 i = T.1 678 i) : PRC p t len n S' T' := by
  obtain ⟨⟨a1, a2⟩, b1, ⟨c1, c2, c3, c4⟩, ⟨d1, d2, d3, d4⟩, e1, e2⟩ := h
  have a5 := a1.1
  have sI : ∀ c g, c < 269 ∨ 283 < c → S'.1 c g = S.1 c g := fun c g y => h1.1 c g (by omega) (by omega) (by omega)
  have s70 : ∀ c g, c = 270 ∨ c = 271 → S'.1 c g = S.1 c g := fun c g y => h1.1 c g (by omega) (by omega) (by omega)
  have tI : ∀ c g, c ≠ 621 → ¬ (678 ≤ c ∧ c ≤ 699) → ¬ (702 ≤ c ∧ c ≤ 705) → T'.1 c g = T.1 c g := fun c g y1 y2 y3 => h2.1 c g (by omega) (by omega) y3 (by omega)
  have x05 : (mrg S T).1 0 5 = S.1 0 5 := mC (by omega)
  refine ⟨⟨PT_c a1 ⟨by rw [mC (by omega), mC (by omega), sI _ _ (by omega)], by rw [mR (by omega), mR (by omega), h2.1 _ _ (by omega) (by omega) (by omega) (by omega)]⟩ fun q hq => ⟨fun x i x1 x2 => ⟨by rw [mC (by omega), mC (by omega), sI _ _ (by omega)], h1.2.1 x i⟩, ⟨fun c g y _ _ => by rw [mR (by omega), mR (by omega), tI _ _ (by omega) (by omega) (by omega)], fun c g y1 y2 _ _ => h1.2.1 c g, fun c y => by rw [mR (by omega), mR (by omega), tI _ _ (by omega) (by omega) (by omega)], fun i _ => by rw [mR (by omega), mR (by omega), tI _ _ (by omega) (by omega) (by omega)], fun i _ => by rw [mR (by omega), mR (by omega), tI _ _ (by omega) (by omega) (by omega)]⟩, by rw [mR (by omega), mR (by omega), tI _ _ (by omega) (by omega) (by omega)], by rw [mR (by omega), mR (by omega), tI _ _ (by omega) (by omega) (by omega)], fun c g y1 y2 _ _ => by rw [mR (by omega), mR (by omega), tI _ _ (by omega) (by omega) (by omega)]⟩, by rw [sI _ _ (by omega)]; exact a2⟩, fun c g y => by rw [h2.2.1, h1.2.1]; exact b1 c g y, ⟨by rw [s70 _ _ (by omega)]; exact c1, by rw [h73]; exact c2, c3, fun i hi => by rw [s70 _ _ (by omega), h78 i hi]; exact c4 i hi⟩, ⟨d1, by rw [sI _ _ (by omega)]; exact d2, d3, fun g hg => by rw [sI _ _ (by omega), tI _ _ (by omega) (by omega) (by omega)]; exact d4 g hg⟩, by rw [tI _ _ (by omega) (by omega) (by omega)]; exact e1, ?_⟩
  have ea : sp_at S' (553 + 2 * t) = sp_at S (553 + 2 * t) := funext fun x => by
    unfold sp_at
    rw [sI _ _ (by omega), sI _ _ (by omega)]
  rw [ea]
  exact e2
/-- the search -/
theorem pr_srch (hQ : 40000000000 ≤ Q) (h : PRC p t len n S T) (hx : 0 ≤ x) : ∃ vc vr S1 T1, jm_115 Q (313 + 20 * p + 1) (270 + 1) x S = some (vc, S1) ∧ jm_308 Q (p : Int) x 0 T = some (vr, T1) ∧ FPs S S1 ∧ FPt T T1 ∧ (T1.1 621 73 = T.1 621 73 ∧ ∀ i, i < len → T1.1 678 i = T.1 678 i) ∧ (∀ c g, 272 ≤ c → c ≤ 280 → S1.1 c g = S.1 c g) ∧ (∀ c g, 702 ≤ c → c ≤ 705 → T1.1 c g = T.1 c g) ∧ T1.1 621 113 = T.1 621 113 ∧ ((vr = -2 ∧ vc = -2) ∨ (vr = 0 ∧ vc = -1) ∨ (vr = 1 ∧ ∃ y e : Nat, vc = 1000 * (y : Int) + (e : Int) ∧ x ≤ (y : Int) ∧ y ≤ e ∧ e ≤ len ∧ T1.1 679 0 = (y : Int) ∧ T1.1 680 0 = (e : Int) ∧ S1.1 281 11 = (y : Int) ∧ S1.1 281 12 = (e : Int) ∧ FLC Q (313 + 20 * p) p t len n S1 T1)) := by
  obtain ⟨⟨a1, a2⟩, b1, ⟨c1, c2, c3, c4⟩, d1, e1, e2⟩ := h
  have a5 := a1.1
  have x05 : (mrg S T).1 0 5 = S.1 0 5 := mC (by omega)
  have p12 : p < 12 := by omega
  have sim := SIM_w (U := mrg S T) (w := 270) (len := len) a1 hQ (show (p : Int) < (mrg S T).1 0 5 by omega) al_fl.2.2.2.2.2.2.2.2 (by decide) (by rw [mC (by omega)]; exact c1) (by omega) (fun i hi => by rw [mC (by omega)]; exact (c4 i hi).2)
  have hB : SB0 (mrg S T) 270 len S T := ⟨⟨fun c g y1 y2 => (mC (by omega)).symm, fun c g _ => rfl, fun c g _ => rfl⟩, ⟨fun c g y1 y2 y3 y4 => (mR ⟨y1, y2⟩).symm, fun c g y => b1 c g y⟩, c2, fun i hi => by rw [mC (by omega)]; exact (c4 i hi).1.symm⟩
  obtain ⟨vc, vr, S1, T1, s1, s2, s3⟩ := sp_ahead sim (by omega) (by omega) hB hx
  obtain ⟨f1, f2, f3, f4⟩ := frC ef_115 s1 (Or.inl rfl)
  obtain ⟨r1, r2, r3, r4⟩ := frR ef_308 s2 (Or.inr rfl)
  obtain ⟨q0, q1⟩ := j115_ref s1
  obtain ⟨hB1, hT⟩ := s3
  have t73 : T1.1 621 73 = T.1 621 73 := by rw [hB1.2.2.1, c2]
  have t78 : ∀ i, i < len → T1.1 678 i = T.1 678 i := fun i hi => by
    rw [hB1.2.2.2 i hi, mC (by omega)]
    exact (c4 i hi).1
  have fS : FPs S S1 := ⟨fun c g _ y _ => f1 c g y, f2, f3, f4⟩
  have fT : FPt T T1 := ⟨fun c g y1 y2 y3 y4 => by
    by_cases z : c = 621 ∧ g = 73
    · rw [z.1, z.2]
      exact t73
    · exact r1 c g (by omega) (by omega), r2, r3, r4⟩
  refine ⟨vc, vr, S1, T1, s1, s2, fS, fT, ⟨t73, t78⟩, fun c g y1 y2 => f1 c g (by omega), fun c g y1 y2 => r1 c g (by omega) (by omega), r1 _ _ (by omega) (by omega), ?_⟩
  rcases hT with y | ⟨_, y | ⟨y1, y, y2, y3, y4⟩⟩
  · exact Or.inl y
  · exact Or.inr (Or.inl y)
  · obtain ⟨⟨z1, z2⟩, z3, ⟨z4, z5, z6⟩, z7, z8⟩ := y3
    refine Or.inr (Or.inr ⟨y1, y.toNat, (S1.1 281 12).toNat, by rw [y2]; omega, by omega, by omega, ?_, by rw [z7]; omega, by rw [← z3]; omega, by rw [z6]; omega, by omega, ?_⟩)
    · rcases z8 0 (by decide) with ⟨w, _⟩ | ⟨_, _, _, _, _, w⟩
      · omega
      · rw [q1, show 270 + 1 - 1 = 270 from rfl, f1 _ _ (by omega), c1] at w
        omega
    · have pc := PRC_c ⟨⟨a1, a2⟩, b1, ⟨c1, c2, c3, c4⟩, d1, e1, e2⟩ fS fT t73 t78
      obtain ⟨⟨g1, g2⟩, _, ⟨g3, g4, g5, g6⟩, g7, _⟩ := pc
      have x5 : (mrg S1 T1).1 0 5 = S1.1 0 5 := mC (by omega)
      obtain ⟨N, M, φ, ψ, own, up, lo, hA⟩ := STA_of (g1.2 p (by omega)) p12 rfl
      have n1 := hA.1.2.2.1
      have n2 := hA.1.2.2.2.1
      refine ⟨⟨q0, q1⟩, ⟨rfl, p12⟩, ?_, fun l hl => ?_, z8, ⟨g3, g4, by omega, g6⟩, g7⟩
      · rw [sft_5 (Or.inr rfl), mC (by omega), mR (by omega)] at n1
        exact n1
      · have q := n2 l hl
        rw [sft_8, sft_5 (Or.inr rfl), mC (by omega), mR (by omega), mR (by omega)] at q
        exact q
end OSC
