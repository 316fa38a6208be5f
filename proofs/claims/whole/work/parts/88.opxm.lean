/-! FACTS: the class keeps what it learned of a pattern, all of it -/
section KEEPD
variable {Q k g b N M m t p f : Nat} {φ ψ own up : Nat → Nat} {S S2 T T2 U V X : ev_St} {W : Nat → FV} {CA CI : Nat → List INS}
/-- what the learning of a pattern may change -/
def FR29 (k : Nat) (S V : ev_St) : Prop := (∀ x i, ¬ (222 ≤ x ∧ x ≤ 231) → ¬ (x = k ∧ 14 ≤ i) → ¬ (k + 12 ≤ x ∧ x ≤ k + 19) → V.1 x i = S.1 x i) ∧ (∀ x i, ¬ (222 ≤ x ∧ x ≤ 231) → ¬ (x = k ∧ 14 ≤ i) → ¬ (k + 12 ≤ x ∧ x ≤ k + 19) → V.2.1 x i = S.2.1 x i) ∧ (∀ x i, ¬ (x = 221 ∧ i = 9) → V.2.2.1 x i = S.2.2.1 x i) ∧ V.2.2.2 = S.2.2.2
def NUM29 (k : Nat) (φ : Nat → Nat) (W : Nat → FV) (V : ev_St) : Prop := V.1 k 16 = (W (φ 0)).1 ∧ (fun c => cs (V.2.1 k 17) (V.2.1 k 18) c = 1) = (W (φ 0)).2.2.1 ∧ ∃ l h, (fun c => cs l h c = 1) = (W (φ 0)).2.2.2.2.2 ∧ V.1 k 19 = lowC l h 128 0
def OKp (N p : Nat) (T : ev_St) : Prop := (∀ m, m < N → okR (320 * p + m) T) ∧ T.1 643 (320 * p) ≤ 200
def PRG (k N p : Nat) (φ : Nat → Nat) (V T : ev_St) (CA CI : Nat → List INS) : Prop := CDQ k N φ V (sft p T) CA CI ∧ PL (k + 12) V (CA 0 ++ [ins 6 0]) ∧ TG (CA 0 ++ [ins 6 0]) ∧ LVD (k + 12) (CA 0 ++ [ins 6 0]) V ∧ (CA 0).length ≤ 200
def ENG (k N p : Nat) (φ : Nat → Nat) (V T : ev_St) : Prop := (¬ OKp N p T ∧ V.1 k 14 = 0 ∧ V.1 k 15 = 0) ∨ (OKp N p T ∧ V.1 k 14 = 1 ∧ ((V.1 k 15 = 0 ∧ ∃ m, m < N ∧ edR (320 * p + m) T) ∨ (V.1 k 15 = 1 ∧ ¬ ∃ m, m < N ∧ edR (320 * p + m) T)) ∧ ∃ CA CI, PRG k N p φ V T CA CI)
def KC (k N M p : Nat) (φ ψ own up : Nat → Nat) (W : Nat → FV) (V T : ev_St) : Prop := FINX k N M φ ψ own up V (sft p T) ∧ WQ k N M φ ψ V (sft p T) W M ∧ NUM29 k φ W V ∧ RLt V (k + 18) (litR k M V) ∧ ENG k N p φ V T
theorem CDQ_S (e1 : S2.1 (k + 1) = S.1 (k + 1)) (e8 : S2.2.1 (k + 8) = S.2.1 (k + 8)) (e9 : S2.2.1 (k + 9) = S.2.1 (k + 9)) (h : CDQ k N φ S T CA CI) : CDQ k N φ S2 T CA CI := by
  unfold CDQ at h ⊢
  rw [e1, e8, e9]
  exact h
/-- behind the numbers: engines and program touch little -/
def FRe (k : Nat) (S V : ev_St) : Prop := (∀ x i, ¬ (x = k ∧ (i = 14 ∨ i = 15)) → ¬ (228 ≤ x ∧ x ≤ 229) → ¬ (x = k + 12 ∧ i = 5) → ¬ (k + 13 ≤ x ∧ x ≤ k + 17) → V.1 x i = S.1 x i) ∧ (∀ x i, ¬ (k + 15 ≤ x ∧ x ≤ k + 16) → V.2.1 x i = S.2.1 x i) ∧ V.2.2 = S.2.2
theorem sp_29 (hF : FINX k N M φ ψ own up S (sft p T)) (hq : ∀ m, m < N → FQ (320 * p) T m) (hk : ev_isOb k 5 = true) (hkr : 232 ≤ k) (hg : al5 (k + 12)) (ho : ev_isOb (k + 18) 10 = true) (hQ : 10000 ≤ Q) : ∃ V W, jm_29 Q (k + 1) S = some ((), V) ∧ FR29 k S V ∧ KC k N M p φ ψ own up W V T := by
  have hN0 : 0 < N := hF.1.1.2.2.1
  have hM : M ≤ 400 := hF.2.1.2.1
  have f0 : φ 0 < M := hF.1.1.2.1.1
  have ψ0 : ψ 0 = φ 0 := hF.1.1.2.1.2.1
  obtain ⟨S1, hS1⟩ : ∃ S1, S1 = ev_pR S 221 9 (k + 1) := ⟨_, rfl⟩
  have s1 : S1.1 = S.1 := by rw [hS1]; rfl
  have s2 : S1.2.1 = S.2.1 := by rw [hS1]; rfl
  have s3 : S1.2.2.1 221 9 = k + 1 := by
    rw [hS1]
    rfl
  have s4 : ∀ x i, ¬ (x = 221 ∧ i = 9) → S1.2.2.1 x i = S.2.2.1 x i := fun x i h => by
    rw [hS1]
    exact if_neg h
  have s5 : S1.2.2.2 = S.2.2.2 := by rw [hS1]; rfl
  have hF1 : FINX k N M φ ψ own up S1 (sft p T) := FINX_c1 hF (fun _ _ => by rw [s1]) (fun _ _ _ _ => by rw [s1]) (fun _ _ _ _ => by rw [s2]) (fun _ _ _ _ _ => rfl) (fun _ _ _ _ _ => rfl) (fun _ _ => rfl) (fun _ _ => rfl) (fun _ _ => rfl)
  obtain ⟨V0, a1, ⟨a2, a3, a4⟩, a5⟩ := run29 (Q := Q) hF1 hk hkr (by omega) s3 M Q 0 S1 (by omega) (by omega) ⟨fun _ _ _ _ => rfl, fun _ _ _ => rfl, rfl⟩ WQ_0
  have v0r : V0.2.2.1 221 9 = k + 1 := by rw [a4]; exact s3
  have v011 : V0.1 k 11 = (M : Int) := by rw [a2 _ _ (by omega) (by omega), s1]; exact hF.2.1.1
  have v010 : V0.1 (k + 10) 0 = (φ 0 : Int) := by rw [a2 _ _ (by omega) (by omega), s1]; exact hF.2.2.2.2.2.1.2
  have run1 := aft_a (Q := Q) (by omega) hk hkr v0r v011 hM v010 f0
  obtain ⟨V1, hV1⟩ : ∃ V1, V1 = num29 k (φ 0) V0 := ⟨_, rfl⟩
  rw [← hV1] at run1
  have w1 : ∀ x i, ¬ (x = k ∧ 14 ≤ i) → V1.1 x i = V0.1 x i := fun x i h => by
    rw [hV1]
    unfold num29
    rw [sp_pI1, if_neg (by omega), sp_pL1, sp_pL1, sp_pI1, if_neg (by omega)]
  have w2 : ∀ x i, ¬ (x = k ∧ 14 ≤ i) → V1.2.1 x i = V0.2.1 x i := fun x i h => by
    rw [hV1]
    unfold num29
    rw [sp_pI2, sp_pL2, if_neg (by omega), sp_pL2, if_neg (by omega), sp_pI2]
  have w3 : V1.2.2 = V0.2.2 := by rw [hV1]; rfl
  have w16 : V1.1 k 16 = V0.1 222 (φ 0) := by
    rw [hV1]
    unfold num29
    rw [rd_nf (by decide), sp_pL1, sp_pL1, rd_eq]
  have w19 : V1.1 k 19 = lowC (V0.2.1 227 (2 * φ 0)) (V0.2.1 227 (2 * φ 0 + 1)) 128 0 := by
    rw [hV1]
    unfold num29
    rw [rd_eq]
  have w17 : V1.2.1 k 17 = V0.2.1 224 (2 * φ 0) := by
    rw [hV1]
    unfold num29
    rw [sp_pI2, rdL_nf (by decide), rd_L]
  have w18 : V1.2.1 k 18 = V0.2.1 224 (2 * φ 0 + 1) := by
    rw [hV1]
    unfold num29
    rw [sp_pI2, rd_L]
  obtain ⟨V2, b1, ⟨b2, b3⟩, b4⟩ := sp_40 (Q := Q) (S := V1) (M := M) (by omega) hk hkr ho (by rw [w3]; exact v0r) (by rw [w1 _ _ (by omega)]; exact v011)
  rw [b1, sp_bd] at run1
  have u1 : ∀ x i, ¬ (222 ≤ x ∧ x ≤ 231) → ¬ (x = k ∧ 14 ≤ i) → ¬ (k + 18 ≤ x ∧ x ≤ k + 19) → V2.1 x i = S.1 x i := fun x i h1 h2 h3 => by
    rw [b2 x i (by omega), w1 x i h2, a2 x i (by omega) (by omega), s1]
  have u2 : ∀ x i, ¬ (222 ≤ x ∧ x ≤ 231) → ¬ (x = k ∧ 14 ≤ i) → V2.2.1 x i = S.2.1 x i := fun x i h1 h2 => by
    rw [b3, w2 x i h2, a3 x i (by omega), s2]
  have u3 : V2.2.2 = S1.2.2 := by
    rw [show V2.2.2 = V1.2.2 from congrArg Prod.snd b3, w3, a4]
  have u4 : ∀ x i, 222 ≤ x → x ≤ 227 → V2.1 x i = V0.1 x i := fun x i h1 h2 => by
    rw [b2 x i (by omega), w1 x i (by omega)]
  have u5 : ∀ x i, 222 ≤ x → x ≤ 227 → V2.2.1 x i = V0.2.1 x i := fun x i h1 h2 => by
    rw [b3, w2 x i (by omega)]
  have fE : ∀ (j : Nat), 1 ≤ j → j ≤ 11 → V2.1 (k + j) = S.1 (k + j) := fun j h1 h2 => funext fun i => u1 _ _ (by omega) (by omega) (by omega)
  have fL : ∀ (j : Nat), 1 ≤ j → V2.2.1 (k + j) = S.2.1 (k + j) := fun j h1 => funext fun i => u2 _ _ (by omega) (by omega)
  have hF2 : FINX k N M φ ψ own up V2 (sft p T) := FINX_c1 hF (fun g hg => u1 _ _ (by omega) (by omega) (by omega)) (fun j b h1 h2 => by rw [fE j h1 h2]) (fun j b h1 h2 => by rw [fL j (by omega)]) (fun _ _ _ _ _ => rfl) (fun _ _ _ _ _ => rfl) (fun _ _ => rfl) (fun _ _ => rfl) (fun _ _ => rfl)
  have eW : val V2 = val V0 := funext fun b => by
    unfold val cm
    rw [u4 222 b (by decide) (by decide), u4 223 b (by decide) (by decide), u5 224 _ (by decide) (by decide), u5 224 _ (by decide) (by decide), u5 225 _ (by decide) (by decide), u5 225 _ (by decide) (by decide), u5 226 _ (by decide) (by decide), u5 226 _ (by decide) (by decide), u5 227 _ (by decide) (by decide), u5 227 _ (by decide) (by decide)]
  have hw2 : WQ k N M φ ψ V2 (sft p T) (val V0) M := WQ_S (S := S1) (by rw [fE 1 (by decide) (by decide), s1]) (by rw [fE 4 (by decide) (by decide), s1]) (by rw [fE 5 (by decide) (by decide), s1]) (by rw [fL 8 (by decide), s2]) (by rw [fL 9 (by decide), s2]) a5
  have lb := LB_all hF2 hw2 hq N 0 hN0 (by omega)
  have e642 : V2.1 223 (φ 0) = T.1 643 (320 * p) := by
    have q := lb.2.2
    rw [ψ0] at q
    rw [u4 223 _ (by decide) (by decide)]
    exact q
  obtain ⟨eok, eed⟩ := eng_eq hF2 hw2 hq
  have v2r : V2.2.2.1 221 9 = k + 1 := by rw [u3]; exact s3
  have v211 : V2.1 k 11 = (M : Int) := by rw [u1 _ _ (by omega) (by omega) (by omega)]; exact hF.2.1.1
  obtain ⟨v, c1, c2⟩ := run38 (Q := Q) (U := V2) hk hM v2r v211 (fun b hb => (TREE_of hF2).2.2.2.2.2.2.2.1 b hb) M Q 0 (by omega) (by omega)
  have j38 : jm_38 Q V2 = some (v, V2) := c1
  rw [eW] at c2
  -- what holds at the end
  have fin : ∀ X, FRe k V2 X → FR29 k S X ∧ FINX k N M φ ψ own up X (sft p T) ∧ WQ k N M φ ψ X (sft p T) (val V0) M ∧ NUM29 k φ (val V0) X ∧ RLt X (k + 18) (litR k M X) := fun X ⟨x1, x2, x3⟩ => by
    have xE : ∀ (j : Nat), 1 ≤ j → j ≤ 11 → X.1 (k + j) = V2.1 (k + j) := fun j h1 h2 => funext fun i => x1 _ _ (by omega) (by omega) (by omega) (by omega)
    have xL : ∀ (j : Nat), j ≤ 14 → X.2.1 (k + j) = V2.2.1 (k + j) := fun j h1 => funext fun i => x2 _ _ (by omega)
    refine ⟨⟨fun x i h1 h2 h3 => ?_, fun x i h1 h2 h3 => ?_, fun x i h => ?_, ?_⟩, ?_, ?_, ⟨?_, ?_, V0.2.1 227 (2 * φ 0), V0.2.1 227 (2 * φ 0 + 1), rfl, ?_⟩, ?_⟩
    · rw [x1 x i (by omega) (by omega) (by omega) (by omega), u1 x i h1 h2 (by omega)]
    · rw [x2 x i (by omega), u2 x i h1 h2]
    · rw [x3, u3, s4 x i h]
    · rw [x3, u3, s5]
    · exact FINX_c1 hF2 (fun g hg => x1 _ _ (by omega) (by omega) (by omega) (by omega)) (fun j b h1 h2 => by rw [xE j h1 h2]) (fun j b h1 h2 => by rw [xL j (by omega)]) (fun _ _ _ _ _ => rfl) (fun _ _ _ _ _ => rfl) (fun _ _ => rfl) (fun _ _ => rfl) (fun _ _ => rfl)
    · exact WQ_S (xE 1 (by decide) (by decide)) (xE 4 (by decide) (by decide)) (xE 5 (by decide) (by decide)) (xL 8 (by decide)) (xL 9 (by decide)) hw2
    · rw [x1 k 16 (by omega) (by omega) (by omega) (by omega), b2 k 16 (by omega), w16]
      rfl
    · rw [show X.2.1 k 17 = V2.2.1 k 17 from x2 k 17 (by omega), show X.2.1 k 18 = V2.2.1 k 18 from x2 k 18 (by omega), b3, w17, w18]
      rfl
    · rw [x1 k 19 (by omega) (by omega) (by omega) (by omega), b2 k 19 (by omega), w19]
    · have el : litR k M X = litR k M V1 := by
        have gE : ∀ (j : Nat), 1 ≤ j → j ≤ 11 → X.1 (k + j) = V1.1 (k + j) := fun j h1 h2 => funext fun i => by
          rw [xE j h1 h2, b2 _ _ (by omega)]
        have gL : ∀ (j : Nat), j ≤ 14 → X.2.1 (k + j) = V1.2.1 (k + j) := fun j h1 => funext fun i => by
          rw [xL j h1, b3]
        exact litR_c (gE 1 (by decide) (by decide)) (gE 4 (by decide) (by decide)) (gE 5 (by decide) (by decide)) (gE 6 (by decide) (by decide)) (gE 7 (by decide) (by decide)) (gE 10 (by decide) (by decide)) (gL 8 (by decide)) (gL 9 (by decide))
      rw [el]
      obtain ⟨d1, d2, d3⟩ := b4
      exact ⟨by rw [x1 (k + 18) 1 (by omega) (by omega) (by omega) (by omega)]; exact d1, d2, fun i hi => by rw [x1 (k + 18 + 1) i (by omega) (by omega) (by omega) (by omega)]; exact d3 i hi⟩
  have start : jm_29 Q (k + 1) S = eng29 Q (φ 0 : Int) V2 := by
    unfold jm_29
    rw [sp_b, ← hS1]
    exact a1.trans run1
  by_cases big : OKp N p T
  · have all := eok.mpr big.1
    have v1 : v = 1 := by
      rcases c2 with y | ⟨_, b, y1, y2⟩
      · exact y.1
      · exact absurd (all b y1) y2
    rw [v1] at j38
    obtain ⟨V3, hV3⟩ : ∃ V3, V3 = ev_pI V2 k 14 1 := ⟨_, rfl⟩
    have v3 : ∀ x i, ¬ (x = k ∧ i = 14) → V3.1 x i = V2.1 x i := fun x i h => by rw [hV3, sp_pI1, if_neg h]
    have v3b : V3.2 = V2.2 := by rw [hV3]; rfl
    obtain ⟨u, d1, d2⟩ := run39 (Q := Q) (U := V3) hk hM (by rw [v3b]; exact v2r) (by rw [v3 _ _ (by omega)]; exact v211) M Q 0 (by omega) (by omega)
    have j39 : jm_39 Q V3 = some (u, V3) := d1
    have ee : ∀ b, V3.1 (k + 1) b = V2.1 (k + 1) b := fun b => v3 _ _ (by omega)
    have d2' : (u = 0 ∧ ¬ ∃ m, m < N ∧ edR (320 * p + m) T) ∨ (u = 1 ∧ ∃ m, m < N ∧ edR (320 * p + m) T) := by
      rcases d2 with ⟨y1, y2⟩ | ⟨y1, b, y2, y3⟩
      · refine Or.inl ⟨y1, fun z => ?_⟩
        obtain ⟨b, z1, z2⟩ := eed.mpr z
        exact y2 b (by omega) z1 (by rw [ee]; exact z2)
      · exact Or.inr ⟨y1, eed.mp ⟨b, y2, by rw [ee] at y3; exact y3⟩⟩
    obtain ⟨V4, hV4⟩ : ∃ V4, V4 = ev_pI V3 k 15 (1 - u) := ⟨_, rfl⟩
    have v4 : ∀ x i, ¬ (x = k ∧ (i = 14 ∨ i = 15)) → V4.1 x i = V2.1 x i := fun x i h => by
      rw [hV4, sp_pI1, if_neg (by omega), v3 x i (by omega)]
    have v4b : V4.2 = V2.2 := by rw [hV4]; exact v3b
    have run2 := en_yes (Q := Q) (f := φ 0) (u := u) (V0 := V4) v2r (by omega) (by have := big.2; omega) j38 (by rw [← hV3]; exact j39) (by omega) (by rw [hV4, hV3])
    have f4 : FRe k V2 V4 := ⟨fun x i h _ _ _ => v4 x i h, fun x i _ => by rw [v4b], by rw [v4b]⟩
    obtain ⟨_, hF4, _⟩ := fin V4 f4
    obtain ⟨V5, e1, e2, e3, e4⟩ := prog_C (Q := Q) (g := k + 12) (CA := cA k N φ V4 (sft p T)) (CI := cI k N φ V4 (sft p T)) hF4 hk hkr rfl hg (by omega) hq big.1 (CDQ_c hF4) big.2
    obtain ⟨CA, hCA⟩ : ∃ CA, CA = cA k N φ V4 (sft p T) := ⟨_, rfl⟩
    obtain ⟨CI, hCI⟩ : ∃ CI, CI = cI k N φ V4 (sft p T) := ⟨_, rfl⟩
    have hC : CDQ k N φ V4 (sft p T) CA CI := by
      rw [hCA, hCI]
      exact CDQ_c hF4
    rw [← hCA] at e3 e4
    have tg : TG (CA 0 ++ [ins 6 0]) := by
      refine TG_app (TG_all hF4 hC (fun m hm => ?_) N 0 hN0 (by omega)).1 (TG_1 (Or.inr ⟨by show ¬ ((6 : Int) = 2 ∨ (6 : Int) = 3 ∨ (6 : Int) = 4); omega, by show (0 : Int) ≤ 0; omega, by show (0 : Int) ≤ 20; omega⟩))
      obtain ⟨o1, o2, _⟩ := big.1 m hm
      rw [show tK (sft p T) m = T.1 625 (320 * p + m) from sft_1 (by decide) (by decide), show tR (sft p T) m = T.1 630 (320 * p + m) from sft_1 (by decide) (by decide)]
      exact ⟨o1, o2⟩
    obtain ⟨V6, g1, g2, g3, g4⟩ := sp_79 (Q := Q) hg tg (by omega) e3
    have f6 : FRe k V2 V6 := ⟨fun x i h1 h2 h3 h4 => by
      rw [g2.1 x i (by omega), e2.1 x i (by omega)]
      exact v4 x i h1, fun x i h => by
      rw [g2.2, e2.2.1 x i (by omega) (by omega), v4b], by rw [g2.2, e2.2.2, v4b]⟩
    obtain ⟨k1, k2, k3, k4, k5⟩ := fin V6 f6
    have e14 : V6.1 k 14 = 1 := by
      rw [g2.1 _ _ (by omega), e2.1 _ _ (by omega), hV4, rd_nf (by decide), hV3, rd_eq]
    have e15 : V6.1 k 15 = 1 - u := by
      rw [g2.1 _ _ (by omega), e2.1 _ _ (by omega), hV4, rd_eq]
    have f46 : ∀ (j : Nat), 1 ≤ j → j ≤ 11 → V6.1 (k + j) = V4.1 (k + j) := fun j h1 h2 => funext fun i => by
      rw [g2.1 _ _ (by omega), e2.1 _ _ (by omega)]
    have f46L : ∀ (j : Nat), j ≤ 14 → V6.2.1 (k + j) = V4.2.1 (k + j) := fun j h1 => funext fun i => by
      rw [g2.2, e2.2.1 _ _ (by omega) (by omega)]
    refine ⟨V6, val V0, ?_, k1, k2, k3, k4, k5, Or.inr ⟨big, e14, ?_, CA, CI, CDQ_S (f46 1 (by decide) (by decide)) (f46L 8 (by decide)) (f46L 9 (by decide)) hC, g3, tg, g4, e4⟩⟩
    · rw [start, run2, e1, g1, sp_bd, sp_bd]
    · rcases d2' with ⟨y1, y2⟩ | ⟨y1, y2⟩
      · exact Or.inr ⟨by rw [e15, y1]; rfl, y2⟩
      · exact Or.inl ⟨by rw [e15, y1]; rfl, y2⟩
  · obtain ⟨V4, hV4⟩ : ∃ V4, V4 = ev_pI (ev_pI V2 k 14 0) k 15 0 := ⟨_, rfl⟩
    have no : 200 < V2.1 223 (φ 0) ∨ jm_38 Q V2 = some (0, V2) := by
      by_cases y : T.1 643 (320 * p) ≤ 200
      · refine Or.inr ?_
        have v0 : v = 0 := by
          rcases c2 with ⟨_, z⟩ | z
          · exact absurd ⟨eok.mp (fun b hb => z b (by omega) hb), y⟩ big
          · exact z.1
        rw [← v0]
        exact j38
      · exact Or.inl (by omega)
    have run2 := en_no (Q := Q) (f := φ 0) (V0 := V4) v2r (by omega) no hV4
    have f4 : FRe k V2 V4 := ⟨fun x i h _ _ _ => by rw [hV4, sp_pI1, if_neg (by omega), sp_pI1, if_neg (by omega)], fun x i _ => by rw [hV4]; rfl, by rw [hV4]; rfl⟩
    obtain ⟨k1, k2, k3, k4, k5⟩ := fin V4 f4
    exact ⟨V4, val V0, start.trans run2, k1, k2, k3, k4, k5, Or.inl ⟨big, by rw [hV4, rd_nf (by decide), rd_eq], by rw [hV4, rd_eq]⟩⟩
end KEEPD
