/-! the call type, and clear: words of signs -/
/-- an int's bits as a number -/
def sp_u (a : Int) : Nat := (Int32.ofInt a).toBitVec.toNat
theorem sp_u_lt (a : Int) : sp_u a < 4294967296 := (Int32.ofInt a).toBitVec.isLt
theorem sp_u_0 {a : Int} (h : ev_rng a) : a = 0 ↔ sp_u a = 0 := by
  constructor
  · intro e
    subst e
    rfl
  · intro e
    have e1 : Int32.ofInt a = 0 := by
      apply Int32.toBitVec_inj.mp
      apply BitVec.eq_of_toNat_eq
      exact e
    have e2 := ev_oi h
    rw [e1] at e2
    exact e2.symm
theorem sp_ushr_k {a b : Int} {k : Nat} (h : (((Int32.ofInt b).toUInt32 &&& Int32.toUInt32 31).toBitVec % 32).toNat = k) : sp_u (ev_iushr a b) = sp_u a / 2 ^ k := by
  unfold sp_u ev_iushr
  rw [ev_io]
  exact pk_ushr _ _ k h
theorem sp_iushr8 (a : Int) : sp_u (ev_iushr a 8) = sp_u a / 256 := sp_ushr_k (k := 8) (by decide +kernel)
theorem sp_iand255 (a : Int) : ev_iand a 255 = ((sp_u a % 256 : Nat) : Int) := by
  unfold ev_iand sp_u
  have e := pk_and (Int32.ofInt a) (m := 255) 8 (by decide +kernel)
  rw [show Int32.ofInt (255 : Int) = 255 from rfl, e]
  exact Int32.toInt_ofNat_of_lt (by omega)
theorem sp_iushr_rng (a b : Int) : ev_rng (ev_iushr a b) := ev_rng_i _
/-- how many signs a word holds, 0 if it is none -/
def sp_cn : Nat → Nat → Int → Int
  | 0, _, c => c
  | f + 1, n, c => if n = 0 then c else if sp_sign ((n % 256 : Nat) : Int) ≠ 0 then sp_cn f (n / 256) (c + 1) else 0
theorem sp_cn_z (f : Nat) (c : Int) : sp_cn f 0 c = c := by
  cases f <;> rfl
theorem sp_cn_b : ∀ (f n : Nat) (c : Int), 0 ≤ c → 0 ≤ sp_cn f n c ∧ sp_cn f n c ≤ c + f
  | 0, n, c, h => by unfold sp_cn; omega
  | f + 1, n, c, h => by
    unfold sp_cn
    have q := sp_cn_b f (n / 256) (c + 1) (by omega)
    split
    · omega
    · split
      · omega
      · omega
theorem sp_199l {Q : Nat} {S : ev_St} : ∀ (f q : Nat) (x1 x2 x3 : Int), f < q → x3 = 4 - (f : Int) → f ≤ 4 → 0 ≤ x1 → x1 ≤ x3 → ev_rng x2 → jl_199_6 Q q x1 x2 x3 S = some (sp_cn f (sp_u x2) x1, S)
  | f, 0, x1, x2, x3, h1, _, _, _, _, _ => by omega
  | 0, q + 1, x1, x2, x3, h1, h2, h3, h4, h5, h6 => by
    show jb_199_6 Q (jl_199_6 Q q) x1 x2 x3 S = _
    unfold jb_199_6
    rw [if_pos (by omega)]
    rfl
  | f + 1, q + 1, x1, x2, x3, h1, h2, h3, h4, h5, h6 => by
    show jb_199_6 Q (jl_199_6 Q q) x1 x2 x3 S = _
    unfold jb_199_6 sp_cn
    rw [if_neg (by omega)]
    by_cases h0 : x2 = 0
    · rw [if_pos h0, if_pos ((sp_u_0 h6).mp h0)]
    · rw [if_neg h0, if_neg (fun h => h0 ((sp_u_0 h6).mpr h)), sp_b, sp_207, sp_bd, sp_iand255]
      by_cases hs : sp_sign ((sp_u x2 % 256 : Nat) : Int) ≠ 0
      · rw [if_pos hs, if_pos hs, sp_ck (by omega), sp_b, sp_ck (by omega)]
        rw [← sp_iushr8]
        exact sp_199l f q (x1 + 1) (ev_iushr x2 8) (x3 + 1) (by omega) (by omega) (by omega) (by omega) (by omega) (sp_iushr_rng _ _)
      · rw [if_neg hs, if_neg hs]
theorem sp_199 {Q : Nat} {a : Int} {S : ev_St} (ha : ev_rng a) : jm_199 (Q + 600) a S = some (sp_cn 4 (sp_u a) 0, S) := by
  unfold jm_199
  exact sp_199l 4 _ 0 a 0 (by omega) (by decide) (by omega) (by omega) (by omega) ha
/-- the reference's -/
def sp_by (a : Int) (i : Int) : Int := ev_iand (ev_iushr a (8 * i)) 255
theorem sp_iushrN (a : Int) : ∀ t : Nat, t < 4 → sp_u (ev_iushr a (8 * (t : Int))) = sp_u a / 256 ^ t
  | 0, _ => sp_ushr_k (k := 0) (by decide +kernel)
  | 1, _ => sp_ushr_k (k := 8) (by decide +kernel)
  | 2, _ => sp_ushr_k (k := 16) (by decide +kernel)
  | 3, _ => sp_ushr_k (k := 24) (by decide +kernel)
  | t + 4, h => by omega
def sp_230e (Q : Nat) (a c : Int) (S : ev_St) : Option (Int × ev_St) := if c = 0 then some (0, ev_pI S 621 0 1) else if S.1 621 1 + c ≤ 120 then jl_230_120 Q a c Q 0 S else some (0, ev_pI S 621 0 2)
theorem sp_230l {Q : Nat} {a : Int} {S : ev_St} (h9 : 0 ≤ S.1 621 1 ∧ S.1 621 1 ≤ 120) : ∀ (f q : Nat) (x2 x3 x4 : Int), f < q → f ≤ 4 → x4 = ((4 - f : Nat) : Int) → 0 ≤ x2 → x2 ≤ x4 → x3 = 0 ∨ x3 = 1 → jl_230_12 Q a q x2 x3 x4 S = sp_230e Q a (if x3 = 0 then 0 else sp_cn f (sp_u a / 256 ^ (4 - f)) x2) S
  | f, 0, x2, x3, x4, h1, _, _, _, _, _ => by omega
  | 0, q + 1, x2, x3, x4, h1, h2, h3, h4, h5, h6 => by
    show jb_230_12 Q a (jl_230_12 Q a q) x2 x3 x4 S = _
    unfold jb_230_12 sp_230e sp_cn
    rw [if_pos (by omega), sp_jn]
    by_cases h0 : x3 = 0
    · rw [if_pos h0, if_pos h0, if_pos rfl]
      rfl
    · rw [if_neg h0, if_neg h0]
      by_cases h : x2 = 0
      · rw [if_neg (fun q => q h), if_pos h]
        rfl
      · rw [if_pos h, if_neg h, sp_b, sp_ck (by omega)]
        rfl
  | f + 1, q + 1, x2, x3, x4, h1, h2, h3, h4, h5, h6 => by
    show jb_230_12 Q a (jl_230_12 Q a q) x2 x3 x4 S = _
    unfold jb_230_12
    rw [if_neg (by omega)]
    rw [sp_ck (by omega)]
    simp only [sp_b, sp_jn]
    have e4 : x4 = ((3 - f : Nat) : Int) := by omega
    have eu : sp_u (ev_iushr a (8 * x4)) = sp_u a / 256 ^ (3 - f) := by
      rw [e4]
      exact sp_iushrN a _ (by omega)
    have ez := sp_u_0 (sp_iushr_rng a (8 * x4))
    rw [sp_iand255, eu]
    rw [eu] at ez
    have ed : sp_u a / 256 ^ (3 - f) / 256 = sp_u a / 256 ^ (4 - f) := by
      rw [Nat.div_div_eq_div_mul, show 4 - f = (3 - f) + 1 from by omega, Nat.pow_succ]
    have e5 : 4 - (f + 1) = 3 - f := by omega
    rw [e5]
    generalize hn : sp_u a / 256 ^ (3 - f) = n at *
    have key : ∀ (y2 y3 : Int), 0 ≤ y2 → y2 ≤ x4 + 1 → y3 = 0 ∨ y3 = 1 → jl_230_12 Q a q y2 y3 (x4 + 1) S = sp_230e Q a (if y3 = 0 then 0 else sp_cn f (n / 256) y2) S := fun y2 y3 g1 g2 g3 => by
      rw [ed]
      exact sp_230l h9 f q y2 y3 (x4 + 1) (by omega) (by omega) (by omega) g1 g2 g3
    have c1 : -2147483648 ≤ x4 + 1 ∧ x4 + 1 ≤ 2147483647 := by omega
    have c2 : -2147483648 ≤ x2 + 1 ∧ x2 + 1 ≤ 2147483647 := by omega
    have c3 : -2147483648 ≤ x2 + 0 ∧ x2 + 0 ≤ 2147483647 := by omega
    have c0 : -2147483648 ≤ 8 * x4 ∧ 8 * x4 ≤ 2147483647 := by omega
    simp only [sp_ck c0, sp_ck c1, sp_ck c2, sp_ck c3]
    by_cases h0 : x3 = 0
    · rw [if_pos h0, if_pos h0]
      split
      · rw [key _ _ (by omega) (by omega) (Or.inl rfl), if_pos rfl]
      · rw [key _ _ (by omega) (by omega) (Or.inl rfl), if_pos rfl]
    · rw [if_neg h0, if_neg h0]
      unfold sp_cn
      by_cases hb : ((n % 256 : Nat) : Int) = 0
      · rw [if_neg (fun h => h hb)]
        by_cases hz : n = 0
        · rw [if_neg (fun h => h (ez.mpr hz)), if_pos hz, if_neg (fun h => h hb), key _ _ (by omega) (by omega) (Or.inr rfl), if_neg (by decide), hz, sp_cn_z]
          rw [Int.add_zero]
        · rw [if_pos (fun h => hz (ez.mp h)), if_neg hz, if_neg (fun h => h hb), key _ _ (by omega) (by omega) (Or.inl rfl), if_pos rfl, hb]
          rw [if_neg (by decide)]
      · rw [if_pos hb, sp_223, sp_bd, if_neg (c := n = 0) (fun h => hb (by rw [h]; rfl))]
        by_cases hs : sp_sign ((n % 256 : Nat) : Int) = 0
        · rw [if_pos hs, if_pos hb, key _ _ (by omega) (by omega) (Or.inl rfl), if_pos rfl, if_neg (c := sp_sign ((n % 256 : Nat) : Int) ≠ 0) (fun h => h hs)]
        · rw [if_neg hs, if_pos hs, if_pos hb, key _ _ (by omega) (by omega) (Or.inr rfl), if_neg (by decide)]
theorem sp_230 {Q : Nat} {a : Int} {S : ev_St} (h9 : 0 ≤ S.1 621 1 ∧ S.1 621 1 ≤ 120) : jm_230 (Q + 600) a S = sp_230e (Q + 600) a (sp_cn 4 (sp_u a) 0) (ev_pI S 621 0 0) := by
  unfold jm_230
  rw [sp_b, sp_230l (by simp [sp_pI1]; exact h9) 4 _ 0 1 0 (by omega) (by omega) (by decide) (by omega) (by omega) (Or.inr rfl), if_neg (by decide)]
  rw [show 4 - 4 = 0 from rfl, Nat.pow_zero, Nat.div_one]
/-! words are added: the class's text and the reference's draft -/
/-- m signs of the word a, from its i-th, at the end of the array kc, whose count is kn's place fn -/
def sp_put (kc kn fn : Nat) (a : Int) : Nat → Int → ev_St → ev_St
  | 0, _, S => S
  | m + 1, i, S => sp_put kc kn fn a m (i + 1) (ev_pI (ev_pI S kc (S.1 kn fn).toNat (sp_by a i)) kn fn (S.1 kn fn + 1))
theorem sp_put_ok {kc kn fn : Nat} {a : Int} (hk : kc ≠ kn) : ∀ (m : Nat) (i : Int) (S : ev_St), 0 ≤ S.1 kn fn → (sp_put kc kn fn a m i S).1 kn fn = S.1 kn fn + m ∧ (sp_put kc kn fn a m i S).2 = S.2 ∧ (∀ b g, b ≠ kc → ¬ (b = kn ∧ g = fn) → (sp_put kc kn fn a m i S).1 b g = S.1 b g) ∧ (∀ g : Nat, (sp_put kc kn fn a m i S).1 kc g = if S.1 kn fn ≤ (g : Int) ∧ (g : Int) < S.1 kn fn + m then sp_by a (i + ((g : Int) - S.1 kn fn)) else S.1 kc g)
  | 0, i, S, h => by
    refine ⟨by simp [sp_put], rfl, fun _ _ _ _ => rfl, fun g => ?_⟩
    rw [if_neg (by omega)]
    rfl
  | m + 1, i, S, h => by
    have e0 : (ev_pI (ev_pI S kc (S.1 kn fn).toNat (sp_by a i)) kn fn (S.1 kn fn + 1)).1 kn fn = S.1 kn fn + 1 := by simp [sp_pI1]
    obtain ⟨q1, q2, q3, q4⟩ := sp_put_ok (a := a) (fn := fn) hk m (i + 1) (ev_pI (ev_pI S kc (S.1 kn fn).toNat (sp_by a i)) kn fn (S.1 kn fn + 1)) (by rw [e0]; omega)
    rw [e0] at q1 q4
    unfold sp_put
    refine ⟨by rw [q1]; omega, q2, fun b g h1 h2 => ?_, fun g => ?_⟩
    · rw [q3 b g h1 h2, sp_pI1, if_neg h2, sp_pI1, if_neg (fun q => h1 q.1)]
    · rw [q4 g]
      by_cases c1 : S.1 kn fn + 1 ≤ (g : Int) ∧ (g : Int) < S.1 kn fn + 1 + m
      · rw [if_pos c1, if_pos (by omega)]
        congr 1
        omega
      · rw [if_neg c1, sp_pI1, if_neg (fun q => hk q.1), sp_pI1]
        by_cases c2 : (g : Int) = S.1 kn fn
        · rw [if_pos ⟨rfl, by omega⟩, if_pos (by omega)]
          congr 1
          omega
        · rw [if_neg (fun q => c2 (by omega)), if_neg (by omega)]
theorem sp_166l {Q : Nat} {a c : Int} (hc : 0 ≤ c ∧ c ≤ 4) : ∀ (m q : Nat) (i : Int) (S : ev_St), m < q → i = c - m → 0 ≤ i → 0 ≤ S.1 1 1 → S.1 1 1 + m ≤ 120 → jl_166_45 Q a c q i S = some (.inl (S.1 1 1 + m), sp_put 2 1 1 a m i S)
  | m, 0, i, S, h, _, _, _, _ => by omega
  | 0, q + 1, i, S, h, h1, h2, h3, h4 => by
    show jb_166_45 Q a c (jl_166_45 Q a c q) i S = _
    unfold jb_166_45
    rw [if_pos (by omega), sp_b]
    simp [sp_put]
  | m + 1, q + 1, i, S, h, h1, h2, h3, h4 => by
    show jb_166_45 Q a c (jl_166_45 Q a c q) i S = _
    unfold jb_166_45
    rw [if_neg (by omega), sp_ck (by omega), sp_b, sp_b, sp_152 (by decide +kernel) ⟨h3, by omega⟩, sp_bd, sp_ck (by omega)]
    have e0 : (ev_pI (ev_pI S (1 + 1) (S.1 1 1).toNat (ev_iand (ev_iushr a (8 * i)) 255)) 1 1 (S.1 1 1 + 1)).1 1 1 = S.1 1 1 + 1 := by simp [sp_pI1]
    rw [sp_166l hc m q (i + 1) _ (by omega) (by omega) (by omega) (by rw [e0]; omega) (by rw [e0]; omega), e0]
    rw [show S.1 1 1 + 1 + (m : Int) = S.1 1 1 + ((m + 1 : Nat) : Int) from by omega]
    rfl
theorem sp_aln622 : ev_aln 622 = 120 := by decide +kernel
theorem sp_230a {Q : Nat} {a c : Int} (hc : 0 ≤ c ∧ c ≤ 4) : ∀ (m q : Nat) (i : Int) (S : ev_St), m < q → i = c - m → 0 ≤ i → 0 ≤ S.1 621 1 → S.1 621 1 + m ≤ 120 → jl_230_120 Q a c q i S = some (S.1 621 1 + m, sp_put 622 621 1 a m i S)
  | m, 0, i, S, h, _, _, _, _ => by omega
  | 0, q + 1, i, S, h, h1, h2, h3, h4 => by
    show jb_230_120 Q a c (jl_230_120 Q a c q) i S = _
    unfold jb_230_120
    rw [if_pos (by omega), sp_b]
    simp [sp_put]
  | m + 1, q + 1, i, S, h, h1, h2, h3, h4 => by
    show jb_230_120 Q a c (jl_230_120 Q a c q) i S = _
    unfold jb_230_120
    rw [if_neg (by omega), sp_b, sp_ck (by omega), sp_b, sp_b, sp_if (by rw [sp_aln622]; omega), sp_b, sp_b]
    rw [show (ev_pI S 622 (Int.toNat (S.1 621 1)) (ev_iand (ev_iushr a (8 * i)) 255)).1 621 1 = S.1 621 1 from by simp [sp_pI1]]
    rw [sp_ck (by omega), sp_b, sp_ck (by omega)]
    have e0 : (ev_pI (ev_pI S 622 (S.1 621 1).toNat (ev_iand (ev_iushr a (8 * i)) 255)) 621 1 (S.1 621 1 + 1)).1 621 1 = S.1 621 1 + 1 := by simp [sp_pI1]
    rw [sp_230a hc m q (i + 1) _ (by omega) (by omega) (by omega) (by rw [e0]; omega) (by rw [e0]; omega), e0]
    rw [show S.1 621 1 + 1 + (m : Int) = S.1 621 1 + ((m + 1 : Nat) : Int) from by omega]
    rfl
/-! what calls keep -/
/-- the text under way is the same on both sides -/
def sp_DR (S : ev_St) : Prop := 0 ≤ S.1 1 1 ∧ S.1 1 1 ≤ 120 ∧ S.1 621 1 = S.1 1 1 ∧ ∀ g : Nat, (g : Int) < S.1 1 1 → S.1 622 g = S.1 2 g ∧ sp_sign (S.1 2 g) = 1
theorem sp_sign1 {x : Int} (h : sp_sign x ≠ 0) : sp_sign x = 1 := by
  unfold sp_sign at h ⊢
  split
  · rfl
  · next c => exact absurd (if_neg c) h
theorem sp_cn_s : ∀ (f n : Nat) (c d : Int), sp_cn f n c = d → d ≠ 0 → ∀ i : Nat, c + i < d → sp_sign ((n / 256 ^ i % 256 : Nat) : Int) = 1
  | 0, n, c, d, h, h0, i, hi => by
    unfold sp_cn at h
    omega
  | f + 1, n, c, d, h, h0, i, hi => by
    unfold sp_cn at h
    by_cases hn : n = 0
    · rw [if_pos hn] at h
      omega
    · rw [if_neg hn] at h
      by_cases hs : sp_sign ((n % 256 : Nat) : Int) ≠ 0
      · rw [if_pos hs] at h
        cases i with
        | zero =>
          rw [Nat.pow_zero, Nat.div_one]
          exact sp_sign1 hs
        | succ i =>
          have q := sp_cn_s f (n / 256) (c + 1) d h h0 i (by omega)
          rw [Nat.div_div_eq_div_mul] at q
          rw [Nat.pow_succ, Nat.mul_comm]
          exact q
      · rw [if_neg hs] at h
        omega
theorem sp_by_s {a c : Int} (hc : sp_cn 4 (sp_u a) 0 = c) (h0 : c ≠ 0) {i : Int} (hi : 0 ≤ i ∧ i < c) : sp_sign (sp_by a i) = 1 := by
  have hb := sp_cn_b 4 (sp_u a) 0 (by omega)
  have q := sp_cn_s 4 (sp_u a) 0 c hc h0 i.toNat (by omega)
  unfold sp_by
  rw [sp_iand255, show i = ((i.toNat : Nat) : Int) from by omega, sp_iushrN a i.toNat (by omega)]
  exact q
/-- ints are changed in W alone, of the longs the law's own cell; a throw's cells at most are new -/
def sp_F (W : Nat → Nat → Prop) (S S2 : ev_St) : Prop := (∀ b g, ¬ W b g → S2.1 b g = S.1 b g) ∧ (∀ b g, b ≠ 723 → S2.2.1 b g = S.2.1 b g) ∧ S2.2.2.1 = S.2.2.1 ∧ S2.2.2.2.1 = S.2.2.2.1 ∧ S2.2.2.2.2.1 = S.2.2.2.2.1 ∧ S2.2.2.2.2.2.1 ≤ S.2.2.2.2.2.1 + 1 ∧ S2.2.2.2.2.2.2 ≤ S.2.2.2.2.2.2 + 6
def sp_W0 (b g : Nat) : Prop := b = 2 ∨ b = 622 ∨ (b = 1 ∧ g = 1) ∨ (b = 621 ∧ g ≤ 1)
theorem sp_166_ok {Q : Nat} {a c : Int} {S : ev_St} (ha : ev_rng a) (hc : sp_cn 4 (sp_u a) 0 = c) (h0 : c ≠ 0) (h1 : 0 ≤ S.1 1 1) (h2 : S.1 1 1 + c ≤ 120) : jm_166 (Q + 600) a S = some (.inl (S.1 1 1 + c), sp_put 2 1 1 a c.toNat 0 S) := by
  have hb := sp_cn_b 4 (sp_u a) 0 (by omega)
  unfold jm_166
  rw [sp_199 ha, sp_bd, hc, if_pos h0, sp_b, sp_ck (by omega), if_pos h2]
  have e := sp_166l (Q := Q + 600) (a := a) (c := c) (S := S) ⟨by omega, by omega⟩ c.toNat (Q + 600) 0 (by omega) (by omega) (by omega) h1 (by omega)
  rw [e, show ((c.toNat : Nat) : Int) = c from by omega]
theorem sp_166_no {Q : Nat} {a : Int} {S : ev_St} (ha : ev_rng a) (hc : sp_cn 4 (sp_u a) 0 = 0) : jm_166 (Q + 600) a S = some (.inr "java/lang/IllegalArgumentException", ev_tick S) := by
  unfold jm_166
  rw [sp_199 ha, sp_bd, hc, if_neg (by decide)]
theorem sp_166_full {Q : Nat} {a c : Int} {S : ev_St} (ha : ev_rng a) (hc : sp_cn 4 (sp_u a) 0 = c) (h0 : c ≠ 0) (h1 : 0 ≤ S.1 1 1 ∧ S.1 1 1 ≤ 120) (h2 : ¬ S.1 1 1 + c ≤ 120) : jm_166 (Q + 600) a S = some (.inr "java/lang/IllegalStateException", ev_tick S) := by
  have hb := sp_cn_b 4 (sp_u a) 0 (by omega)
  unfold jm_166
  rw [sp_199 ha, sp_bd, hc, if_pos h0, sp_b, sp_ck (by omega), if_neg h2]
section OPS2
variable {Q L j : Nat} {xs : Nat → Int32} {S : ev_St}
theorem op_0 (hD : sp_DR S) (hL : L ≤ 3072) (hj : j + 6 ≤ L) : ∃ S2, (∀ K, ja_188 (Q + 600) L xs (j : Int) K S = K S2) ∧ sp_DR S2 ∧ sp_F sp_W0 S S2 := by
  obtain ⟨d1, d2, d3, d4⟩ := hD
  have ha := ev_rng_i (xs (Int.toNat ((j : Int) + 1)))
  generalize hA : (xs (Int.toNat ((j : Int) + 1))).toInt = a at ha
  have hb := sp_cn_b 4 (sp_u a) 0 (by omega)
  generalize hc : sp_cn 4 (sp_u a) 0 = c at hb
  by_cases h0 : c = 0
  · have e2 := sp_230 (Q := Q) (a := a) (S := ev_tick S) (by rw [sp_tick1]; omega)
    rw [hc, h0] at e2
    unfold sp_230e at e2
    rw [if_pos rfl] at e2
    refine ⟨_, fun K => la_0 (S1 := ev_tick S) (c := 1) (b := 0) hL hj ?_ (by rw [hA]; exact e2) ?_ ?_, ?_, ?_⟩
    · rw [hA]
      exact lw_0_x0 a (sp_166_no ha (by rw [hc, h0]))
    · simp [sp_pI1]
    · intro h
      cases h
    · refine ⟨d1, d2, ?_, fun g hg => ?_⟩
      · simp only [sp_pI1, sp_tick1]
        simpa using d3
      · simp only [sp_pI1, sp_tick1] at hg ⊢
        simpa using d4 g (by simpa using hg)
    · refine ⟨fun b g h => ?_, fun _ _ _ => rfl, rfl, rfl, rfl, Nat.le_refl _, Nat.le_refl _⟩
      have h6 : ¬ (b = 621 ∧ g = 0) := fun q => h (Or.inr (Or.inr (Or.inr ⟨q.1, by omega⟩)))
      rw [sp_pI1, if_neg h6, sp_pI1, if_neg h6]
      rfl
  · by_cases h2 : S.1 1 1 + c ≤ 120
    · obtain ⟨q1, q2, q3, q4⟩ := sp_put_ok (kc := 2) (kn := 1) (fn := 1) (a := a) (by decide) c.toNat 0 S d1
      have e1 := sp_166_ok (Q := Q) ha hc h0 d1 h2
      generalize sp_put 2 1 1 a c.toNat 0 S = P at q1 q2 q3 q4 e1
      have hT : ∀ b g, ¬ (b = 621 ∧ g = 0) → (ev_pI (ev_pL P 723 0 (ev_i2l (S.1 1 1 + c))) 621 0 0).1 b g = P.1 b g := fun b g h => by
        rw [sp_pI1, if_neg h, sp_pL1]
      have hT1 : (ev_pI (ev_pL P 723 0 (ev_i2l (S.1 1 1 + c))) 621 0 0).1 621 0 = 0 := by simp [sp_pI1]
      have hT2 : (ev_pI (ev_pL P 723 0 (ev_i2l (S.1 1 1 + c))) 621 0 0).2 = (ev_pL P 723 0 (ev_i2l (S.1 1 1 + c))).2 := rfl
      have e2 := sp_230 (Q := Q) (a := a) (S := ev_pL P 723 0 (ev_i2l (S.1 1 1 + c))) (by rw [sp_pL1, q3 621 1 (by decide) (by decide)]; omega)
      have hT3 : (ev_pI (ev_pL P 723 0 (ev_i2l (S.1 1 1 + c))) 621 0 0).1 621 1 = S.1 1 1 := by
        rw [hT 621 1 (by decide), q3 621 1 (by decide) (by decide), d3]
      generalize hU : ev_pI (ev_pL P 723 0 (ev_i2l (S.1 1 1 + c))) 621 0 0 = T at hT hT1 hT2 hT3 e2
      rw [hc] at e2
      unfold sp_230e at e2
      rw [if_neg h0, if_pos (by rw [hT3]; exact h2), sp_230a ⟨by omega, by omega⟩ c.toNat (Q + 600) 0 T (by omega) (by omega) (by omega) (by rw [hT3]; exact d1) (by rw [hT3]; omega)] at e2
      obtain ⟨r1, r2, r3, r4⟩ := sp_put_ok (kc := 622) (kn := 621) (fn := 1) (a := a) (by decide) c.toNat 0 T (by rw [hT3]; exact d1)
      generalize sp_put 622 621 1 a c.toNat 0 T = S2 at r1 r2 r3 r4 e2
      have k1 : S2.1 1 1 = S.1 1 1 + c := by
        rw [r3 1 1 (by decide) (by decide), hT 1 1 (by decide), q1]
        omega
      refine ⟨S2, fun K => la_0 (S1 := ev_pL P 723 0 (ev_i2l (S.1 1 1 + c))) (c := 0) (b := S.1 1 1 + c) hL hj ?_ (by rw [hA, e2, hT3]; congr 2; omega) ?_ ?_, ?_, ?_⟩
      · rw [hA]
        exact lw_0_ok a e1
      · rw [r3 621 0 (by decide) (by decide), hT1]
      · intro _
        rw [r2, hT2]
        simp [sp_pL2]
      · refine ⟨by omega, by omega, by rw [r1, hT3, k1]; omega, fun g hg => ?_⟩
        rw [k1] at hg
        rw [r4 g, hT3, r3 2 g (by decide) (by simp), hT 2 g (by simp), q4 g]
        by_cases c1 : S.1 1 1 ≤ (g : Int) ∧ (g : Int) < S.1 1 1 + (c.toNat : Nat)
        · rw [if_pos c1, if_pos c1]
          exact ⟨rfl, sp_by_s hc h0 (by omega)⟩
        · rw [if_neg c1, if_neg c1, hT 622 g (by simp), q3 622 g (by decide) (by simp)]
          exact d4 g (by omega)
      · have w2 : S2.2 = (ev_pL P 723 0 (ev_i2l (S.1 1 1 + c))).2 := by rw [r2, hT2]
        refine ⟨fun b g h => ?_, fun b g h => ?_, ?_, ?_, ?_, ?_, ?_⟩
        · have h6 : ¬ (b = 621 ∧ g = 0) := fun q => h (Or.inr (Or.inr (Or.inr ⟨q.1, by omega⟩)))
          rw [r3 b g (fun q => h (Or.inr (Or.inl q))) (fun q => h (Or.inr (Or.inr (Or.inr ⟨q.1, by omega⟩)))), hT b g h6, q3 b g (fun q => h (Or.inl q)) (fun q => h (Or.inr (Or.inr (Or.inl q))))]
        · rw [w2, sp_pL2, if_neg (fun q => h q.1), q2]
        · rw [w2, sp_pL3, q2]
        · rw [w2, sp_pL3, q2]
        · rw [w2, sp_pL3, q2]
        · rw [w2, sp_pL3, q2]
          omega
        · rw [w2, sp_pL3, q2]
          omega
    · have e2 := sp_230 (Q := Q) (a := a) (S := ev_tick S) (by rw [sp_tick1]; omega)
      rw [hc] at e2
      unfold sp_230e at e2
      rw [if_neg h0, if_neg (by simp only [sp_pI1, sp_tick1]; simp; omega)] at e2
      refine ⟨_, fun K => la_0 (S1 := ev_tick S) (c := 2) (b := 0) hL hj ?_ (by rw [hA]; exact e2) ?_ ?_, ?_, ?_⟩
      · rw [hA]
        exact lw_0_x1 a (sp_166_full ha hc h0 ⟨d1, d2⟩ h2)
      · simp [sp_pI1]
      · intro h
        cases h
      · refine ⟨d1, d2, ?_, fun g hg => ?_⟩
        · simp only [sp_pI1, sp_tick1]
          simpa using d3
        · simp only [sp_pI1, sp_tick1] at hg ⊢
          simpa using d4 g (by simpa using hg)
      · refine ⟨fun b g h => ?_, fun _ _ _ => rfl, rfl, rfl, rfl, Nat.le_refl _, Nat.le_refl _⟩
        have h6 : ¬ (b = 621 ∧ g = 0) := fun q => h (Or.inr (Or.inr (Or.inr ⟨q.1, by omega⟩)))
        rw [sp_pI1, if_neg h6, sp_pI1, if_neg h6]
        rfl
theorem op_1 (hD : sp_DR S) : ∃ S2, (∀ K, ja_244 Q L xs K S = K S2) ∧ sp_DR S2 ∧ sp_F sp_W0 S S2 := by
  obtain ⟨d1, d2, d3, d4⟩ := hD
  refine ⟨ev_pI (ev_pI (ev_pI S 1 1 0) 621 0 0) 621 1 0, fun K => ?_, ?_, ?_⟩
  · unfold ja_244 jm_167 jm_231
    simp only [sp_b, sp_bd, sp_pI1]
    rw [if_pos (by simp; omega)]
  · refine ⟨by simp [sp_pI1], by simp [sp_pI1], by simp [sp_pI1], fun g hg => ?_⟩
    simp [sp_pI1] at hg
    omega
  · refine ⟨fun b g h => ?_, fun _ _ _ => rfl, rfl, rfl, rfl, Nat.le_succ _, Nat.le_add_right _ _⟩
    rw [sp_pI1, if_neg (fun q => h (Or.inr (Or.inr (Or.inr ⟨q.1, by omega⟩)))), sp_pI1, if_neg (fun q => h (Or.inr (Or.inr (Or.inr ⟨q.1, by omega⟩)))), sp_pI1, if_neg (fun q => h (Or.inr (Or.inr (Or.inl q))))]
end OPS2
