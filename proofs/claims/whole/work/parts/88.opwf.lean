/-! FACTS: the class's sets and numbers of a node -/
section FACTC
variable {Q k b e : Nat} {S V W : ev_St}
theorem cs_or {l h l' h' : Int64} {c : Int} : cs (l ||| l') (h ||| h') c = 1 ↔ cs l h c = 1 ∨ cs l' h' c = 1 := by
  unfold cs
  rw [lb_or, lb_or]
  by_cases r : 0 ≤ c ∧ c < 128
  · by_cases z : c < 64
    · simp only [r, z, true_and, if_true]
      cases lb l c.toNat <;> cases lb l' c.toNat <;> decide
    · simp only [r, z, true_and, if_false]
      cases lb h (c - 64).toNat <;> cases lb h' (c - 64).toNat <;> decide
  · rw [if_neg (fun z => r ⟨z.1, z.2.1⟩), if_neg (fun z => r ⟨z.1, z.2.1⟩), if_neg (fun z => r ⟨z.1, z.2.1⟩)]
    decide
theorem cs_z {c : Int} : ¬ cs (Int64.ofNat ((0 : Fin 2) : Nat)) (Int64.ofNat ((0 : Fin 2) : Nat)) c = 1 := by
  unfold cs
  have z : ∀ i, lb (Int64.ofNat ((0 : Fin 2) : Nat)) i = false := fun i => lb_0 i
  rw [z, z, ite_self, if_neg (fun h => absurd h.2.2 (by decide))]
  decide
theorem cs_0 {c : Int} : ¬ cs 0 0 c = 1 := cs_z
/-- a character is in the set of a node -/
def cm (S : ev_St) (a b : Nat) (c : Int) : Prop := cs (S.2.1 a (2 * b)) (S.2.1 a (2 * b + 1)) c = 1
def put2 (S : ev_St) (a b : Nat) (x y : Int64) : ev_St := ev_pL (ev_pL S a (2 * b) x) a (2 * b + 1) y
def uni (S : ev_St) (a b a' e : Nat) : ev_St := put2 S a b (S.2.1 a (2 * b) ||| S.2.1 a' (2 * e)) (S.2.1 a (2 * b + 1) ||| S.2.1 a' (2 * e + 1))
theorem al_G : ev_aln 222 = 400 ∧ ev_aln 223 = 400 ∧ ev_aln 224 = 800 ∧ ev_aln 225 = 800 ∧ ev_aln 226 = 800 ∧ ev_aln 227 = 800 := by decide +kernel
theorem al_G4 {a : Nat} (h : 224 ≤ a ∧ a ≤ 227) : ev_aln a = 800 := by
  have : a = 224 ∨ a = 225 ∨ a = 226 ∨ a = 227 := by omega
  obtain ⟨_, _, l1, l2, l3, l4⟩ := al_G
  rcases this with z | z | z | z <;> rw [z] <;> assumption
theorem sp_36 {a : Nat} {x y : Int64} (ha : 224 ≤ a ∧ a ≤ 227) (hb : b < 400) : jm_36 Q (a + 1) (b : Int) x y S = some ((), put2 S a b x y) := by
  have l := al_G4 ha
  unfold jm_36
  rw [if_neg (by omega), sp_ck (by omega), sp_ck (by omega), sp_if (by omega), sp_b, show a + 1 - 1 = a from rfl, if_neg (by rw [l]; omega), sp_ck (by omega), sp_if (by omega), sp_if (by rw [l]; omega), sp_b, sp_ck (by omega), sp_ck (by omega), sp_if (by omega), sp_if (by rw [l]; omega), sp_b, show (2 * (b : Int)).toNat = 2 * b from by omega, show (2 * (b : Int) + 1).toNat = 2 * b + 1 from by omega]
  rfl
theorem sp_35 {a : Nat} (ha : 224 ≤ a ∧ a ≤ 227) (hb : b < 400) : jm_35 Q (a + 1) (b : Int) S = some ((), put2 S a b (Int64.ofNat ((0 : Fin 2) : Nat)) (Int64.ofNat ((0 : Fin 2) : Nat))) := by
  unfold jm_35
  rw [sp_36 ha hb, sp_bd]
theorem put2_2 {a x g : Nat} {l h : Int64} : (put2 S a b l h).2.1 x g = if x = a ∧ g = 2 * b + 1 then h else if x = a ∧ g = 2 * b then l else S.2.1 x g := rfl
theorem sp_37 {a a' : Nat} (ha : 224 ≤ a ∧ a ≤ 227) (hb : b < 400) (ha' : 224 ≤ a' ∧ a' ≤ 227) (he : e < 400) : jm_37 Q (a + 1) (b : Int) (a' + 1) (e : Int) S = some ((), uni S a b a' e) := by
  have l := al_G4 ha
  have l' := al_G4 ha'
  have e1 : (2 * (b : Int)).toNat = 2 * b := by omega
  have e2 : (2 * (b : Int) + 1).toNat = 2 * b + 1 := by omega
  have e3 : (2 * (e : Int)).toNat = 2 * e := by omega
  have e4 : (2 * (e : Int) + 1).toNat = 2 * e + 1 := by omega
  unfold jm_37
  rw [if_neg (by omega), sp_ck (by omega), sp_ck (by omega), sp_if (by omega), sp_b, show a + 1 - 1 = a from rfl, show a' + 1 - 1 = a' from rfl, if_neg (by rw [l]; omega), if_neg (by omega), sp_ck (by omega), sp_ck (by omega), sp_if (by omega), sp_b, if_neg (by rw [l']; omega), sp_ck (by omega), sp_if (by omega), sp_if (by rw [l]; omega), sp_b, sp_ck (by omega), sp_if (by omega), sp_if (by rw [l']; omega), sp_b, sp_b, sp_if (by omega), sp_if (by rw [l]; omega), sp_b, sp_ck (by omega), sp_ck (by omega), sp_if (by omega), sp_if (by rw [l]; omega), sp_b, sp_ck (by omega), sp_ck (by omega), sp_if (by omega), sp_if (by rw [l']; omega), sp_b, sp_b, sp_if (by omega), sp_if (by rw [l]; omega), sp_b, e1, e2, e3, e4, sp_pL2, if_neg (by omega), sp_pL2, if_neg (by omega)]
  rfl
/-- nothing but the node's sets is changed -/
def FRc (b : Nat) (S V : ev_St) : Prop := V.1 = S.1 ∧ V.2.2 = S.2.2 ∧ ∀ x g, ¬ ((224 ≤ x ∧ x ≤ 227) ∧ (g = 2 * b ∨ g = 2 * b + 1)) → V.2.1 x g = S.2.1 x g
theorem FRc_r : FRc b S S := ⟨rfl, rfl, fun _ _ _ => rfl⟩
theorem FRc_t (h : FRc b S V) (h2 : FRc b V W) : FRc b S W := ⟨h2.1.trans h.1, h2.2.1.trans h.2.1, fun x g z => (h2.2.2 x g z).trans (h.2.2 x g z)⟩
theorem FRc_p {a : Nat} {x y : Int64} (ha : 224 ≤ a ∧ a ≤ 227) : FRc b S (put2 S a b x y) := ⟨rfl, rfl, fun x g z => by rw [put2_2, if_neg (by omega), if_neg (by omega)]⟩
theorem FRc_e (h : FRc b S V) (he : e ≠ b) {a : Nat} {c : Int} : cm V a e c ↔ cm S a e c := by
  unfold cm
  rw [h.2.2 a (2 * e) (by omega), h.2.2 a (2 * e + 1) (by omega)]
theorem put2_cm {a a2 : Nat} {x y : Int64} {c : Int} : cm (put2 S a b x y) a2 b c ↔ (a2 = a ∧ cs x y c = 1) ∨ (a2 ≠ a ∧ cm S a2 b c) := by
  unfold cm
  rw [put2_2, put2_2]
  by_cases h : a2 = a
  · rw [if_neg (by omega), if_pos ⟨h, rfl⟩, if_pos ⟨h, rfl⟩]
    constructor
    · exact fun z => Or.inl ⟨h, z⟩
    · rintro (z | z)
      · exact z.2
      · exact absurd h z.1
  · rw [if_neg (fun z => h z.1), if_neg (fun z => h z.1), if_neg (fun z => h z.1), if_neg (fun z => h z.1)]
    constructor
    · exact fun z => Or.inr ⟨h, z⟩
    · rintro (z | z)
      · exact absurd z.1 h
      · exact z.2
theorem uni_cm {a a' a2 : Nat} {c : Int} : cm (uni S a b a' e) a2 b c ↔ cm S a2 b c ∨ (a2 = a ∧ cm S a' e c) := by
  unfold uni
  rw [put2_cm, cs_or]
  constructor
  · rintro (⟨z, y | y⟩ | z)
    · exact Or.inl (by rw [z]; exact y)
    · exact Or.inr ⟨z, y⟩
    · exact Or.inl z.2
  · rintro (z | z)
    · by_cases h : a2 = a
      · exact Or.inl ⟨h, Or.inl (by rw [h] at z; exact z)⟩
      · exact Or.inr ⟨h, z⟩
    · exact Or.inl ⟨z.1, Or.inr z.2⟩
abbrev FV := Int × Int × (Int → Prop) × (Int → Prop) × (Int → Prop) × (Int → Prop)
def SET4 (b : Nat) (S : ev_St) (F J I A : Int → Prop) : Prop := ∀ c, (cm S 224 b c ↔ F c) ∧ (cm S 225 b c ↔ J c) ∧ (cm S 226 b c ↔ I c) ∧ (cm S 227 b c ↔ A c)
/-- the numbers and sets of a node -/
def VAL (b : Nat) (S : ev_St) (v : FV) : Prop := S.1 222 b = v.1 ∧ S.1 223 b = v.2.1 ∧ SET4 b S v.2.2.1 v.2.2.2.1 v.2.2.2.2.1 v.2.2.2.2.2
/-- nothing but the node's facts is changed -/
def FRn (b : Nat) (S V : ev_St) : Prop := (∀ x g, ¬ ((x = 222 ∨ x = 223) ∧ g = b) → V.1 x g = S.1 x g) ∧ V.2.2 = S.2.2 ∧ ∀ x g, ¬ ((224 ≤ x ∧ x ≤ 227) ∧ (g = 2 * b ∨ g = 2 * b + 1)) → V.2.1 x g = S.2.1 x g
theorem FRn_r : FRn b S S := ⟨fun _ _ _ => rfl, rfl, fun _ _ _ => rfl⟩
theorem FRn_t (h : FRn b S V) (h2 : FRn b V W) : FRn b S W := ⟨fun x g z => (h2.1 x g z).trans (h.1 x g z), h2.2.1.trans h.2.1, fun x g z => (h2.2.2 x g z).trans (h.2.2 x g z)⟩
theorem FRn_of (h : FRc b S V) : FRn b S V := ⟨fun x g _ => by rw [h.1], h.2⟩
theorem FRn_p {a : Nat} {x : Int} (ha : a = 222 ∨ a = 223) : FRn b S (ev_pI S a b x) := ⟨fun c g z => by rw [sp_pI1, if_neg (by omega)], rfl, fun _ _ _ => rfl⟩
theorem VAL_e {v : FV} (h : VAL e S v) (hf : FRn b S V) (he : e ≠ b) : VAL e V v := by
  obtain ⟨h1, h2, h3⟩ := h
  refine ⟨by rw [hf.1 _ _ (by omega)]; exact h1, by rw [hf.1 _ _ (by omega)]; exact h2, fun c => ?_⟩
  have q : ∀ a, cm V a e c ↔ cm S a e c := fun a => by
    unfold cm
    rw [hf.2.2 a (2 * e) (by omega), hf.2.2 a (2 * e + 1) (by omega)]
  rw [q, q, q, q]
  exact h3 c
theorem sp_imin {x : Int} (h : -2147483648 ≤ x ∧ x ≤ 2147483647) : ev_imin 1000000 x = mlC x := by
  unfold ev_imin ev_mm mlC
  have h1 : (Int32.ofInt x).toInt = x := Int32.toInt_ofInt_of_le (by omega) (by omega)
  have h2 : (Int32.ofInt 1000000).toInt = 1000000 := by decide
  show (if Int32.ofInt x < Int32.ofInt 1000000 then Int32.ofInt x else Int32.ofInt 1000000).toInt = _
  by_cases z : x < 1000000
  · rw [if_pos (Int32.lt_iff_toInt_lt.mpr (by rw [h1, h2]; exact z)), h1, if_pos (by omega)]
  · rw [if_neg (fun y => z (by have := Int32.lt_iff_toInt_lt.mp y; rw [h1, h2] at this; exact this)), h2]
    split <;> omega
theorem sp_imin2 {x y : Int} (h : -2147483648 ≤ x ∧ x ≤ 2147483647) (h' : -2147483648 ≤ y ∧ y ≤ 2147483647) : ev_imin x y = if y < x then y else x := by
  unfold ev_imin ev_mm
  have h1 : (Int32.ofInt x).toInt = x := Int32.toInt_ofInt_of_le (by omega) (by omega)
  have h2 : (Int32.ofInt y).toInt = y := Int32.toInt_ofInt_of_le (by omega) (by omega)
  show (if Int32.ofInt y < Int32.ofInt x then Int32.ofInt y else Int32.ofInt x).toInt = _
  by_cases z : y < x
  · rw [if_pos (Int32.lt_iff_toInt_lt.mpr (by rw [h1, h2]; exact z)), h2, if_pos z]
  · rw [if_neg (fun w => z (by have := Int32.lt_iff_toInt_lt.mp w; rw [h1, h2] at this; exact this)), h1, if_neg z]
/-- one item more of a row -/
def rowF (v w : FV) : FV := (mlC (v.1 + w.1), mlC (v.2.1 + w.2.1), fun c => v.2.2.1 c ∨ (v.1 = 0 ∧ w.2.2.1 c), fun c => (w.1 = 0 ∧ v.2.2.2.1 c) ∨ (v.1 = 0 ∧ w.2.2.2.1 c), fun c => (w.1 = 0 ∧ v.2.2.2.2.1 c) ∨ (v.1 = 0 ∧ w.2.2.2.2.1 c), fun c => v.2.2.2.2.2 c ∨ w.2.2.2.2.2 c)
theorem st33_57 {x18 : Int} {F J I A : Int → Prop} (hb : b < 400) (hs : SET4 b S F J I A) : ∃ V, (∀ JJ : ev_St → Option (Unit × ev_St), ev_jn JJ (fun K57 => if x18 = 0 then (K57  S) else (ev_bd (jm_35 Q ((225 + 1)) (b:Int) S) fun _ s52 => ev_bd (jm_35 Q ((226 + 1)) (b:Int) s52) fun _ s53 => K57  s53)) = JJ V) ∧ FRc b S V ∧ SET4 b V F (fun c => x18 = 0 ∧ J c) (fun c => x18 = 0 ∧ I c) A := by
  by_cases h : x18 = 0
  · refine ⟨S, fun JJ => by rw [sp_jn, if_pos h], FRc_r, fun c => ?_⟩
    obtain ⟨a1, a2, a3, a4⟩ := hs c
    exact ⟨a1, ⟨fun z => ⟨h, a2.mp z⟩, fun z => a2.mpr z.2⟩, ⟨fun z => ⟨h, a3.mp z⟩, fun z => a3.mpr z.2⟩, a4⟩
  · refine ⟨_, fun JJ => by rw [sp_jn, if_neg h, sp_35 (by omega) hb, sp_bd, sp_35 (by omega) hb, sp_bd], FRc_t (FRc_p (by omega)) (FRc_p (by omega)), fun c => ?_⟩
    obtain ⟨a1, a2, a3, a4⟩ := hs c
    rw [put2_cm, put2_cm, put2_cm, put2_cm, put2_cm, put2_cm, put2_cm, put2_cm]
    refine ⟨?_, ?_, ?_, ?_⟩
    · rw [← a1]
      simp
    · constructor
      · intro z
        simp [cs_0] at z
      · intro z
        exact absurd z.1 h
    · constructor
      · intro z
        simp [cs_0] at z
      · intro z
        exact absurd z.1 h
    · rw [← a4]
      simp
theorem st33_108 {x25 : Int} {F J I A F' J' I' A' : Int → Prop} (hb : b < 400) (he : e < 400) (hbe : e ≠ b) (hs : SET4 b S F J I A) (hs' : SET4 e S F' J' I' A') : ∃ V, (∀ JJ : ev_St → Option (Unit × ev_St), ev_jn JJ (fun K108 => if x25 ≠ 0 then (K108  S) else (ev_bd (jm_37 Q ((224 + 1)) (b:Int) ((224 + 1)) (e:Int) S) fun _ s48 => ev_bd (jm_37 Q ((225 + 1)) (b:Int) ((225 + 1)) (e:Int) s48) fun _ s49 => ev_bd (jm_37 Q ((226 + 1)) (b:Int) ((226 + 1)) (e:Int) s49) fun _ s50 => K108  s50)) = JJ V) ∧ FRc b S V ∧ SET4 b V (fun c => F c ∨ (x25 = 0 ∧ F' c)) (fun c => J c ∨ (x25 = 0 ∧ J' c)) (fun c => I c ∨ (x25 = 0 ∧ I' c)) A := by
  by_cases h : x25 = 0
  · have f1 : FRc b S (uni S 224 b 224 e) := FRc_p (by omega)
    have f2 : FRc b (uni S 224 b 224 e) (uni (uni S 224 b 224 e) 225 b 225 e) := FRc_p (by omega)
    have f3 : FRc b (uni (uni S 224 b 224 e) 225 b 225 e) (uni (uni (uni S 224 b 224 e) 225 b 225 e) 226 b 226 e) := FRc_p (by omega)
    refine ⟨_, fun JJ => by rw [sp_jn, if_neg (by omega), sp_37 (by omega) hb (by omega) he, sp_bd, sp_37 (by omega) hb (by omega) he, sp_bd, sp_37 (by omega) hb (by omega) he, sp_bd], FRc_t f1 (FRc_t f2 f3), fun c => ?_⟩
    obtain ⟨a1, a2, a3, a4⟩ := hs c
    obtain ⟨b1, b2, b3, b4⟩ := hs' c
    rw [uni_cm, uni_cm, uni_cm, uni_cm, uni_cm, uni_cm, uni_cm, uni_cm, uni_cm, uni_cm, uni_cm, uni_cm, FRc_e (FRc_t f1 f2) hbe, FRc_e f1 hbe, a1, a2, a3, a4, b1, b2, b3]
    simp [h]
  · refine ⟨S, fun JJ => by rw [sp_jn, if_pos h], FRc_r, fun c => ?_⟩
    obtain ⟨a1, a2, a3, a4⟩ := hs c
    simp [h, a1, a2, a3, a4]
theorem row_step {K12 : Int → Int → ev_St → Option (Unit × ev_St)} {i : Nat} {v w : FV} (hr : S.2.2.1 221 9 = k + 1) (hal : ev_aln (k + 5) = 400) (h11 : (e : Int) < S.1 k 11) (hk : k ≠ 222 ∧ k ≠ 223) (hk5 : k + 5 ≠ 222 ∧ k + 5 ≠ 223) (hb : b < 400) (he : e < 400) (hbe : e ≠ b) (hi : i < 400) (hv : VAL b S v) (hw : VAL e S w) (r1 : fcv v.1 ∧ fcv v.2.1) (r2 : fcv w.1 ∧ fcv w.2.1) : ∃ V, jb_33_12 Q (b : Int) K12 (e : Int) (i : Int) S = K12 (S.1 (k + 5) e) ((i : Int) + 1) V ∧ FRn b S V ∧ VAL b V (rowF v w) := by
  obtain ⟨l22, l23, _⟩ := al_G
  obtain ⟨v1, v2, v3⟩ := hv
  obtain ⟨w1, w2, w3⟩ := hw
  unfold fcv at r1 r2
  obtain ⟨V1, a1, a2, a3⟩ := st33_57 (Q := Q) (x18 := w.1) hb v3
  have e1 : ∀ a c, cm V1 a e c ↔ cm S a e c := fun a c => FRc_e a2 hbe
  obtain ⟨V2, b1, b2, b3⟩ := st33_108 (Q := Q) (x25 := v.1) (F' := w.2.2.1) (J' := w.2.2.2.1) (I' := w.2.2.2.2.1) (A' := w.2.2.2.2.2) hb he hbe a3 (fun c => by rw [e1, e1, e1, e1]; exact w3 c)
  have f12 := FRc_t a2 b2
  have f3 : FRc b V2 (uni V2 227 b 227 e) := FRc_p (by omega)
  obtain ⟨V3, hV3⟩ : ∃ V3, V3 = uni V2 227 b 227 e := ⟨_, rfl⟩
  have f13 : FRc b S V3 := by
    rw [hV3]
    exact FRc_t f12 f3
  obtain ⟨V4, hV4⟩ : ∃ V4, V4 = ev_pI V3 222 b (mlC (v.1 + w.1)) := ⟨_, rfl⟩
  obtain ⟨V5, hV5⟩ : ∃ V5, V5 = ev_pI V4 223 b (mlC (v.2.1 + w.2.1)) := ⟨_, rfl⟩
  have g4 : FRn b S V4 := by
    rw [hV4]
    exact FRn_t (FRn_of f13) (FRn_p (Or.inl rfl))
  have g5 : FRn b S V5 := by
    rw [hV5]
    exact FRn_t g4 (FRn_p (Or.inr rfl))
  have x23 : V4.1 223 b = v.2.1 := by
    rw [hV4, rd_nk (by omega), f13.1]
    exact v2
  refine ⟨V5, ?_, g5, ?_, ?_, fun c => ?_⟩
  · unfold jb_33_12
    rw [if_neg (by omega), sp_b, hr, sp_if (by omega), show k + 1 - 1 = k from rfl, sp_59, sp_bd, if_neg (show ¬ ((if 0 ≤ (e : Int) ∧ (e : Int) < S.1 k 11 ∧ (e : Int) < 400 then (1 : Int) else 0) = 0) by rw [if_pos ⟨by omega, h11, by omega⟩]; decide), sp_if (by rw [l22]; omega), sp_b, Int.toNat_natCast, Int.toNat_natCast, w1, a1]
    try dsimp only
    rw [sp_if (by rw [l22]; omega), sp_b, a2.1, v1, b1]
    try dsimp only
    rw [sp_37 (by omega) hb (by omega) he, sp_bd, ← hV3, sp_if (by rw [l22]; omega), sp_b, sp_if (by rw [l22]; omega), sp_b, f13.1, v1, w1, sp_ck (by omega), sp_b, sp_imin (by omega), sp_if (by rw [l22]; omega), sp_b, ← hV4, sp_if (by rw [l23]; omega), sp_b, sp_if (by rw [l23]; omega), sp_b, x23, g4.1 223 e (by omega), w2, sp_ck (by omega), sp_b, sp_imin (by omega), sp_if (by rw [l23]; omega), sp_b, ← hV5, sp_b, g5.2.1, hr, sp_if (by omega), show k + 1 - 1 = k from rfl, sp_if (by rw [hal]; omega), sp_b, g5.1 _ _ (by omega), sp_ck (by omega)]
  · rw [hV5, rd_nk (by omega), hV4, rd_eq]
    rfl
  · rw [hV5, rd_eq]
    rfl
  · have q : ∀ a, cm V5 a b c ↔ cm V3 a b c := fun a => by
      rw [hV5, hV4]
      exact Iff.rfl
    obtain ⟨c1, c2, c3, c4⟩ := b3 c
    have e2 : cm V2 227 e c ↔ cm S 227 e c := FRc_e f12 hbe
    rw [q, q, q, q, hV3, uni_cm, uni_cm, uni_cm, uni_cm, c1, c2, c3, c4, e2, (w3 c).2.2.2]
    simp [rowF]
end FACTC
