/-! FACTS: the class's repeats and parts -/
section FACTC2
variable {Q k b e : Nat} {S V W : ev_St}
/-- a repeat -/
def repF (lo hi : Int) (w : FV) : FV := (mlC (w.1 * lo), mlC (if hi = -1 then w.2.1 * (lo + 1) + 2 else (w.2.1 + 1) * hi), fun c => hi ≠ 0 ∧ w.2.2.1 c, fun c => (hi ≠ 0 ∧ (lo ≤ 1 ∨ w.1 = 0)) ∧ w.2.2.2.1 c, fun c => (hi ≠ 0 ∧ (lo ≤ 1 ∨ w.1 = 0)) ∧ (w.2.2.2.2.1 c ∨ (hi = -1 ∧ w.2.2.2.1 c)), fun c => w.2.2.2.2.2 c ∨ (hi = -1 ∧ w.2.2.2.2.1 c))
theorem st32_140 {hi : Int} {F J I A F' J' I' A' : Int → Prop} (hb : b < 400) (he : e < 400) (hs : SET4 b S F J I A) (hs' : SET4 e S F' J' I' A') : ∃ V, (∀ JJ : ev_St → Option (Unit × ev_St), ev_jn JJ (fun K140 => if hi = 0 then (K140  S) else (ev_bd (jm_37 Q ((224 + 1)) (b:Int) ((224 + 1)) (e:Int) S) fun _ s73 => K140  s73)) = JJ V) ∧ FRc b S V ∧ SET4 b V (fun c => F c ∨ (hi ≠ 0 ∧ F' c)) J I A := by
  by_cases h : hi = 0
  · refine ⟨S, fun JJ => by rw [sp_jn, if_pos h], FRc_r, fun c => ?_⟩
    obtain ⟨a1, a2, a3, a4⟩ := hs c
    simp [h, a1, a2, a3, a4]
  · refine ⟨uni S 224 b 224 e, fun JJ => by rw [sp_jn, if_neg h, sp_37 (by omega) hb (by omega) he, sp_bd], FRc_p (by omega), fun c => ?_⟩
    obtain ⟨a1, a2, a3, a4⟩ := hs c
    obtain ⟨b1, b2, b3, b4⟩ := hs' c
    rw [uni_cm, uni_cm, uni_cm, uni_cm, a1, a2, a3, a4, b1]
    simp [h]
theorem st32_206 {lo hi en l : Int} {F J I A F' J' I' A' : Int → Prop} (hb : b < 400) (he : e < 400) (hbe : e ≠ b) (hl : S.1 222 e = l) (hs : SET4 b S F J I A) (hs' : SET4 e S F' J' I' A') : ∃ V, (∀ JJ : ev_St → Option (Unit × ev_St), ev_jn JJ (fun K206 => if hi = 0 then (K206  S) else (ev_jn (fun  (s64 : ev_St) => ev_bd (jm_37 Q ((225 + 1)) (b:Int) ((225 + 1)) (e:Int) s64) fun _ s65 => ev_bd (jm_37 Q ((226 + 1)) (b:Int) ((226 + 1)) (e:Int) s65) fun _ s66 => if en = 0 then (K206  s66) else (ev_bd (jm_37 Q ((226 + 1)) (b:Int) ((225 + 1)) (e:Int) s66) fun _ s68 => K206  s68)) fun K159 => if lo ≤ 1 then (K159  S) else (ev_if ((0 : Int) ≤ (e:Int) ∧ (e:Int) < (ev_aln 222 : Int)) (ev_b (S.1 222 e) fun x70 => if x70 ≠ 0 then (K206  S) else (K159  S))))) = JJ V) ∧ FRc b S V ∧ SET4 b V F (fun c => J c ∨ ((hi ≠ 0 ∧ (lo ≤ 1 ∨ l = 0)) ∧ J' c)) (fun c => I c ∨ ((hi ≠ 0 ∧ (lo ≤ 1 ∨ l = 0)) ∧ (I' c ∨ (en ≠ 0 ∧ J' c)))) A := by
  obtain ⟨l22, _⟩ := al_G
  by_cases h : hi = 0
  · refine ⟨S, fun JJ => by rw [sp_jn, if_pos h], FRc_r, fun c => ?_⟩
    obtain ⟨a1, a2, a3, a4⟩ := hs c
    simp [h, a1, a2, a3, a4]
  · by_cases hc : lo ≤ 1 ∨ l = 0
    · have f1 : FRc b S (uni S 225 b 225 e) := FRc_p (by omega)
      have f2 : FRc b (uni S 225 b 225 e) (uni (uni S 225 b 225 e) 226 b 226 e) := FRc_p (by omega)
      have f12 := FRc_t f1 f2
      have key : ∀ JJ : ev_St → Option (Unit × ev_St), (ev_bd (jm_37 Q ((225 + 1)) (b : Int) ((225 + 1)) (e : Int) S) fun _ s65 => ev_bd (jm_37 Q ((226 + 1)) (b : Int) ((226 + 1)) (e : Int) s65) fun _ s66 => if en = 0 then (JJ s66) else (ev_bd (jm_37 Q ((226 + 1)) (b : Int) ((225 + 1)) (e : Int) s66) fun _ s68 => JJ s68)) = JJ (if en = 0 then uni (uni S 225 b 225 e) 226 b 226 e else uni (uni (uni S 225 b 225 e) 226 b 226 e) 226 b 225 e) := fun JJ => by
        rw [sp_37 (by omega) hb (by omega) he, sp_bd, sp_37 (by omega) hb (by omega) he, sp_bd]
        by_cases z : en = 0
        · rw [if_pos z, if_pos z]
        · rw [if_neg z, if_neg z, sp_37 (by omega) hb (by omega) he, sp_bd]
      refine ⟨if en = 0 then uni (uni S 225 b 225 e) 226 b 226 e else uni (uni (uni S 225 b 225 e) 226 b 226 e) 226 b 225 e, fun JJ => ?_, ?_, fun c => ?_⟩
      · rw [← key JJ, sp_jn, if_neg h, sp_jn]
        by_cases z : lo ≤ 1
        · rw [if_pos z]
        · rw [if_neg z, sp_if (by rw [l22]; omega), sp_b, hl, if_neg (by omega)]
      · split
        · exact f12
        · exact FRc_t f12 (FRc_p (by omega))
      · obtain ⟨a1, a2, a3, a4⟩ := hs c
        obtain ⟨b1, b2, b3, b4⟩ := hs' c
        by_cases z : en = 0
        · rw [if_pos z, uni_cm, uni_cm, uni_cm, uni_cm, uni_cm, uni_cm, uni_cm, uni_cm, FRc_e f1 hbe, a1, a2, a3, a4, b2, b3]
          simp [z, h, hc]
        · rw [if_neg z, uni_cm, uni_cm, uni_cm, uni_cm, uni_cm, uni_cm, uni_cm, uni_cm, uni_cm, uni_cm, uni_cm, uni_cm, FRc_e f12 hbe, FRc_e f1 hbe, a1, a2, a3, a4, b2, b3]
          simp [z, h, hc, or_assoc]
    · refine ⟨S, fun JJ => ?_, FRc_r, fun c => ?_⟩
      · rw [sp_jn, if_neg h, sp_jn, if_neg (fun z => hc (Or.inl z)), sp_if (by rw [l22]; omega), sp_b, hl, if_pos (fun z => hc (Or.inr z))]
      · obtain ⟨a1, a2, a3, a4⟩ := hs c
        simp [h, hc, a1, a2, a3, a4]
def zFV : FV := (0, 0, fun _ => False, fun _ => False, fun _ => False, fun _ => False)
theorem learn_rep {lo hi : Int} {w : FV} (hr : S.2.2.1 221 9 = k + 1) (hal : ev_aln (k + 2) = 400 ∧ ev_aln (k + 3) = 400 ∧ ev_aln (k + 4) = 400) (h4 : S.1 (k + 4) b = (e : Int)) (hlo : S.1 (k + 2) b = lo) (hhi : S.1 (k + 3) b = hi) (rlo : 0 ≤ lo ∧ lo ≤ 20) (rhi : -1 ≤ hi ∧ hi ≤ 20) (h11 : (e : Int) < S.1 k 11) (hb : b < 400) (he : e < 400) (hbe : e ≠ b) (hv : VAL b S zFV) (hw : VAL e S w) (r2 : fcv w.1 ∧ fcv w.2.1) : ∃ V, jm_32 Q (b : Int) S = some ((), V) ∧ FRn b S V ∧ VAL b V (repF lo hi w) := by
  obtain ⟨l22, l23, _⟩ := al_G
  obtain ⟨l2, l3, l4⟩ := hal
  obtain ⟨v1, v2, v3⟩ := hv
  obtain ⟨w1, w2, w3⟩ := hw
  unfold fcv at r2
  have b1 : 0 ≤ w.1 * lo ∧ w.1 * lo ≤ 1000000 * 20 := ⟨Int.mul_nonneg (by omega) (by omega), Int.mul_le_mul (by omega) (by omega) (by omega) (by omega)⟩
  obtain ⟨x, hx⟩ : ∃ x, x = (if hi = -1 then w.2.1 * (lo + 1) + 2 else (w.2.1 + 1) * hi) := ⟨_, rfl⟩
  obtain ⟨en, hen⟩ : ∃ en : Int, en = if hi = -1 then 1 else 0 := ⟨_, rfl⟩
  have en' : en ≠ 0 ↔ hi = -1 := by
    rw [hen]
    split <;> simp [*]
  have b3 : 0 ≤ w.2.1 * (lo + 1) ∧ w.2.1 * (lo + 1) ≤ 1000000 * 21 := ⟨Int.mul_nonneg (by omega) (by omega), Int.mul_le_mul (by omega) (by omega) (by omega) (by omega)⟩
  have b4 : hi ≠ -1 → 0 ≤ (w.2.1 + 1) * hi ∧ (w.2.1 + 1) * hi ≤ 1000001 * 20 := fun h => ⟨Int.mul_nonneg (by omega) (by omega), Int.mul_le_mul (by omega) (by omega) (by omega) (by omega)⟩
  obtain ⟨V1, hV1⟩ : ∃ V1, V1 = ev_pI S 222 b (mlC (w.1 * lo)) := ⟨_, rfl⟩
  have g1 : FRn b S V1 := by
    rw [hV1]
    exact FRn_p (Or.inl rfl)
  obtain ⟨V2, hV2⟩ : ∃ V2, V2 = ev_pI V1 223 b (mlC x) := ⟨_, rfl⟩
  have g2 : FRn b S V2 := by
    rw [hV2]
    exact FRn_t g1 (FRn_p (Or.inr rfl))
  have q2 : ∀ a e c, cm V2 a e c ↔ cm S a e c := fun a e c => by
    rw [hV2, hV1]
    exact Iff.rfl
  obtain ⟨V3, c1, c2, c3⟩ := st32_140 (Q := Q) (S := V2) (hi := hi) (F := fun _ => False) (J := fun _ => False) (I := fun _ => False) (A := fun _ => False) (F' := w.2.2.1) (J' := w.2.2.2.1) (I' := w.2.2.2.2.1) (A' := w.2.2.2.2.2) hb he (fun c => by rw [q2, q2, q2, q2]; exact v3 c) (fun c => by rw [q2, q2, q2, q2]; exact w3 c)
  have e3 : ∀ a c, cm V3 a e c ↔ cm S a e c := fun a c => (FRc_e c2 hbe).trans (q2 a e c)
  obtain ⟨V4, d1, d2, d3⟩ := st32_206 (Q := Q) (S := V3) (lo := lo) (hi := hi) (en := en) (l := w.1) hb he hbe (by rw [c2.1, g2.1 _ _ (by omega), w1]) c3 (fun c => by rw [e3, e3, e3, e3]; exact w3 c)
  have f24 := FRc_t c2 d2
  have f5 : FRc b V4 (uni V4 227 b 227 e) := FRc_p (by omega)
  obtain ⟨V5, hV5⟩ : ∃ V5, V5 = uni V4 227 b 227 e := ⟨_, rfl⟩
  rw [← hV5] at f5
  have f25 := FRc_t f24 f5
  obtain ⟨V6, hV6⟩ : ∃ V6, V6 = if en = 0 then V5 else uni V5 227 b 226 e := ⟨_, rfl⟩
  have f6 : FRc b V5 V6 := by
    rw [hV6]
    split
    · exact FRc_r
    · exact FRc_p (by omega)
  have f26 := FRc_t f25 f6
  refine ⟨V6, ?_, FRn_t g2 (FRn_of f26), ?_, ?_, fun c => ?_⟩
  · have tl : ∀ x29 : Int, x29 = en → (ev_b (ev_imin 1000000 x) fun x39 => ev_if ((0 : Int) ≤ (b : Int) ∧ (b : Int) < (ev_aln 223 : Int)) (ev_b (ev_pI V1 223 (Int.toNat (b : Int)) x39) fun s40 => ev_jn (fun (s48 : ev_St) => ev_jn (fun (s54 : ev_St) => ev_bd (jm_37 Q ((227 + 1)) (b : Int) ((227 + 1)) (e : Int) s54) fun _ s55 => if x29 = 0 then (some ((), s55)) else (ev_bd (jm_37 Q ((227 + 1)) (b : Int) ((226 + 1)) (e : Int) s55) fun _ s57 => some ((), s57))) fun K206 => if hi = 0 then (K206  s48) else (ev_jn (fun  (s64 : ev_St) => ev_bd (jm_37 Q ((225 + 1)) (b:Int) ((225 + 1)) (e:Int) s64) fun _ s65 => ev_bd (jm_37 Q ((226 + 1)) (b:Int) ((226 + 1)) (e:Int) s65) fun _ s66 => if x29 = 0 then (K206  s66) else (ev_bd (jm_37 Q ((226 + 1)) (b:Int) ((225 + 1)) (e:Int) s66) fun _ s68 => K206  s68)) fun K159 => if lo ≤ 1 then (K159  s48) else (ev_if ((0 : Int) ≤ (e:Int) ∧ (e:Int) < (ev_aln 222 : Int)) (ev_b (s48.1 222 e) fun x70 => if x70 ≠ 0 then (K206  s48) else (K159  s48))))) fun K140 => if hi = 0 then (K140  s40) else (ev_bd (jm_37 Q ((224 + 1)) (b:Int) ((224 + 1)) (e:Int) s40) fun _ s73 => K140  s73))) = some ((), V6) := fun x29 h29 => by
      subst h29
      have xr : -2147483648 ≤ x ∧ x ≤ 2147483647 := by
        rw [hx]
        split
        · omega
        · have := b4 ‹_›
          omega
      rw [sp_b, sp_imin xr, sp_if (by rw [l23]; omega), sp_b, Int.toNat_natCast, ← hV2, c1]
      try dsimp only
      rw [d1]
      try dsimp only
      rw [sp_37 (by omega) hb (by omega) he, sp_bd, ← hV5, hV6]
      by_cases z : x29 = 0
      · rw [if_pos z, if_pos z]
      · rw [if_neg z, if_neg z, sp_37 (by omega) hb (by omega) he, sp_bd]
    unfold jm_32
    rw [sp_b, hr, sp_if (by omega), show k + 1 - 1 = k from rfl, sp_if (by rw [l4]; omega), sp_b, Int.toNat_natCast, h4, sp_b, sp_if (by omega), sp_59, sp_bd, show k + 1 - 1 = k from rfl, if_pos (show (if 0 ≤ (e : Int) ∧ (e : Int) < S.1 k 11 ∧ (e : Int) < 400 then (1 : Int) else 0) ≠ 0 by rw [if_pos ⟨by omega, h11, by omega⟩]; decide), sp_b, hr, sp_if (by omega), show k + 1 - 1 = k from rfl, sp_if (by rw [l2]; omega), sp_b, hlo, sp_b, sp_if (by omega), show k + 1 - 1 = k from rfl, sp_if (by rw [l3]; omega), sp_b, hhi, sp_jn]
    by_cases z : hi = -1
    · have ez : en = 1 := by rw [hen, if_pos z]
      have xz : x = w.2.1 * (lo + 1) + 2 := by rw [hx, if_pos z]
      rw [if_neg (fun y => y z)]
      try dsimp only
      rw [sp_if (by rw [l22]; omega), sp_b, Int.toNat_natCast, w1, sp_ck (by omega), sp_b, sp_imin (by omega), sp_if (by rw [l22]; omega), sp_b, ← hV1, sp_jn, if_neg (by decide), sp_if (by rw [l23]; omega), sp_b, g1.1 223 e (by omega), w2, sp_ck (by omega), sp_ck (by omega), sp_ck (by omega), ← xz]
      try dsimp only
      exact tl 1 ez.symm
    · have ez : en = 0 := by rw [hen, if_neg z]
      have xz : x = (w.2.1 + 1) * hi := by rw [hx, if_neg z]
      have := b4 z
      rw [if_pos z]
      try dsimp only
      rw [sp_if (by rw [l22]; omega), sp_b, Int.toNat_natCast, w1, sp_ck (by omega), sp_b, sp_imin (by omega), sp_if (by rw [l22]; omega), sp_b, ← hV1, sp_jn, if_pos rfl, sp_if (by rw [l23]; omega), sp_b, g1.1 223 e (by omega), w2, sp_ck (by omega), sp_ck (by omega), ← xz]
      try dsimp only
      exact tl 0 ez.symm
  · rw [f26.1, hV2, rd_nk (by omega), hV1, rd_eq]
    rfl
  · rw [f26.1, hV2, rd_eq, hx]
    rfl
  · have e4 : ∀ a c, cm V4 a e c ↔ cm S a e c := fun a c => (FRc_e (FRc_t c2 d2) hbe).trans (q2 a e c)
    have e5 : ∀ a c, cm V5 a e c ↔ cm S a e c := fun a c => (FRc_e f5 hbe).trans (e4 a c)
    obtain ⟨p1, p2, p3, p4⟩ := d3 c
    obtain ⟨o1, o2, o3, o4⟩ := w3 c
    have q5 : (cm V5 224 b c ↔ cm V4 224 b c) ∧ (cm V5 225 b c ↔ cm V4 225 b c) ∧ (cm V5 226 b c ↔ cm V4 226 b c) ∧ (cm V5 227 b c ↔ cm V4 227 b c ∨ w.2.2.2.2.2 c) := by
      rw [hV5, uni_cm, uni_cm, uni_cm, uni_cm, e4, o4]
      simp
    have q6 : (cm V6 224 b c ↔ cm V5 224 b c) ∧ (cm V6 225 b c ↔ cm V5 225 b c) ∧ (cm V6 226 b c ↔ cm V5 226 b c) ∧ (cm V6 227 b c ↔ cm V5 227 b c ∨ (hi = -1 ∧ w.2.2.2.2.1 c)) := by
      rw [hV6]
      by_cases z : en = 0
      · rw [if_pos z]
        have : ¬ hi = -1 := fun y => en'.mpr y z
        simp [this]
      · rw [if_neg z, uni_cm, uni_cm, uni_cm, uni_cm, e5, o3]
        have := en'.mp z
        simp [this]
    rw [q6.1, q6.2.1, q6.2.2.1, q6.2.2.2, q5.1, q5.2.1, q5.2.2.1, q5.2.2.2, p1, p2, p3, p4, en']
    simp [repF]
end FACTC2
