/-! SETS OF CHARACTERS: bits of longs -/
def lb (x : Int64) (i : Nat) : Bool := x.toBitVec.getLsbD i
theorem lb_and (x y : Int64) (i : Nat) : lb (x &&& y) i = (lb x i && lb y i) := by
  unfold lb
  rw [Int64.toBitVec_and, BitVec.getLsbD_and]
theorem lb_or (x y : Int64) (i : Nat) : lb (x ||| y) i = (lb x i || lb y i) := by
  unfold lb
  rw [Int64.toBitVec_or, BitVec.getLsbD_or]
theorem lb_xor (x y : Int64) (i : Nat) : lb (x ^^^ y) i = (lb x i ^^ lb y i) := by
  unfold lb
  rw [Int64.toBitVec_xor, BitVec.getLsbD_xor]
theorem lb_ge (x : Int64) {i : Nat} (h : 64 ≤ i) : lb x i = false := BitVec.getLsbD_of_ge _ _ h
theorem lb_ext {x y : Int64} (h : ∀ i, i < 64 → lb x i = lb y i) : x = y := by
  apply Int64.toBitVec_inj.mp
  apply BitVec.eq_of_getLsbD_eq
  exact h
theorem lb_m1 : ∀ i : Fin 64, lb (-1) i.1 = true := by decide +kernel
theorem lb_0 (i : Nat) : lb (Int64.ofNat ((0 : Fin 2) : Nat)) i = false := by
  unfold lb
  rw [show (Int64.ofNat ((0 : Fin 2) : Nat)).toBitVec = 0#64 from rfl]
  exact BitVec.getLsbD_zero
theorem lb_shl1 : ∀ k : Fin 64, (ev_lshl (Int64.ofNat ((1 : Fin 2) : Nat)) ((k.1 : Nat) : Int)).toBitVec = 1#64 <<< k.1 := by decide +kernel
theorem lb_one {k : Int} (hk : 0 ≤ k ∧ k < 64) {i : Nat} (hi : i < 64) : lb (ev_lshl (Int64.ofNat ((1 : Fin 2) : Nat)) k) i = decide ((i : Int) = k) := by
  have e := lb_shl1 ⟨k.toNat, by omega⟩
  dsimp only at e
  rw [show ((k.toNat : Nat) : Int) = k from by omega] at e
  unfold lb
  rw [e, BitVec.getLsbD_shiftLeft]
  by_cases h : (i : Int) = k
  · rw [show i - k.toNat = 0 from by omega]
    simp [h]
    omega
  · by_cases h2 : i < k.toNat
    · simp [h2, h]
    · have h3 : 0 < i - k.toNat := by omega
      simp [h, BitVec.getLsbD_one]
      omega
theorem lb_ushr_k : ∀ k : Fin 64, (((Int32.ofInt ((k.1 : Nat) : Int)).toInt64.toUInt64 &&& Int64.toUInt64 63).toBitVec % 64).toNat = k.1 := by decide +kernel
theorem lb_ushr (x : Int64) {k : Int} (hk : 0 ≤ k ∧ k < 64) (i : Nat) : lb (ev_lushr x k) i = lb x (k.toNat + i) := by
  have e := lb_ushr_k ⟨k.toNat, by omega⟩
  dsimp only at e
  rw [show ((k.toNat : Nat) : Int) = k from by omega] at e
  unfold lb ev_lushr
  show ((x.toUInt64 >>> ((Int32.ofInt k).toInt64.toUInt64 &&& Int64.toUInt64 63)).toBitVec).getLsbD i = _
  rw [UInt64.toBitVec_shiftRight]
  show (x.toUInt64.toBitVec >>> (((Int32.ofInt k).toInt64.toUInt64 &&& Int64.toUInt64 63).toBitVec % 64).toNat).getLsbD i = _
  rw [e, BitVec.getLsbD_ushiftRight]
  rfl
theorem lb_shl_k : ∀ k : Fin 64, (((Int32.ofInt ((k.1 : Nat) : Int)).toInt64 &&& 63).toBitVec.smod 64).toNat = k.1 := by decide +kernel
theorem lcmp_0 (y : Int64) : ev_lcmp y (Int64.ofNat ((0 : Fin 2) : Nat)) = 0 ↔ y = 0 := by
  unfold ev_lcmp lg_cmp
  rw [show Int64.ofNat ((0 : Fin 2) : Nat) = 0 from rfl]
  split
  · next h =>
    constructor
    · intro e
      exact absurd e (by decide)
    · intro e
      rw [e] at h
      exact absurd h (by decide)
  · split
    · next h => exact ⟨fun _ => h, fun _ => rfl⟩
    · next h =>
      constructor
      · intro e
        exact absurd e (by decide)
      · intro e
        exact absurd e h
/-- the class's set has a character -/
def cs (l h : Int64) (c : Int) : Int := if 0 ≤ c ∧ c < 128 ∧ (if c < 64 then lb l c.toNat else lb h (c - 64).toNat) = true then 1 else 0
theorem sp_iand63 : ∀ k : Fin 128, ev_iand ((k.1 : Nat) : Int) 63 = ((k.1 % 64 : Nat) : Int) := by decide +kernel
theorem lb_and1 (y : Int64) : ev_lcmp (y &&& (Int64.ofNat ((1 : Fin 2) : Nat))) (Int64.ofNat ((0 : Fin 2) : Nat)) = 0 ↔ lb y 0 = false := by
  rw [lcmp_0]
  have o1 : ∀ i : Fin 64, lb (Int64.ofNat ((1 : Fin 2) : Nat)) i.1 = decide (i.1 = 0) := by decide +kernel
  constructor
  · intro e
    have q := lb_and y (Int64.ofNat ((1 : Fin 2) : Nat)) 0
    rw [e, o1 ⟨0, by omega⟩] at q
    simpa [lb_0] using q.symm.trans (by rfl)
  · intro e
    apply lb_ext
    intro i hi
    rw [lb_and, o1 ⟨i, hi⟩]
    by_cases h : i = 0
    · subst h
      rw [e]
      rfl
    · have : lb 0 i = false := lb_0 i
      simp [h, this]
theorem sp_214 {Q : Nat} {l h : Int64} {c : Int} {S : ev_St} : jm_214 Q l h c S = some (cs l h c, S) := by
  unfold jm_214 cs
  by_cases h1 : c < 0
  · rw [if_pos h1, if_neg (by omega)]
  · rw [if_neg h1]
    by_cases h2 : 128 ≤ c
    · rw [if_pos h2, if_neg (by omega)]
    · have e := sp_iand63 ⟨c.toNat, by omega⟩
      dsimp only at e
      rw [show ((c.toNat : Nat) : Int) = c from by omega] at e
      rw [if_neg h2, sp_jn]
      by_cases h3 : 64 ≤ c
      · have e2 : ((c.toNat % 64 : Nat) : Int) = c - 64 := by omega
        rw [if_pos h3]
        dsimp only
        rw [e, sp_b, e2, sp_b, sp_b, sp_b, show (if c < 64 then lb l c.toNat else lb h (c - 64).toNat) = lb h (c - 64).toNat from if_neg (by omega)]
        have q := lb_and1 (ev_lushr h (c - 64))
        rw [lb_ushr _ (by omega), show (c - 64).toNat + 0 = (c - 64).toNat from rfl] at q
        by_cases h4 : lb h (c - 64).toNat = false
        · rw [if_pos (q.mpr h4), if_neg (by rw [h4]; simp)]
        · rw [if_neg (fun z => h4 (q.mp z)), if_pos ⟨by omega, by omega, by simpa using h4⟩]
      · have e2 : ((c.toNat % 64 : Nat) : Int) = c := by omega
        rw [if_neg h3]
        dsimp only
        rw [e, sp_b, e2, sp_b, sp_b, sp_b, show (if c < 64 then lb l c.toNat else lb h (c - 64).toNat) = lb l c.toNat from if_pos (by omega)]
        have q := lb_and1 (ev_lushr l c)
        rw [lb_ushr _ (by omega), show c.toNat + 0 = c.toNat from rfl] at q
        by_cases h4 : lb l c.toNat = false
        · rw [if_pos (q.mpr h4), if_neg (by rw [h4]; simp)]
        · rw [if_neg (fun z => h4 (q.mp z)), if_pos ⟨by omega, by omega, by simpa using h4⟩]
/-- the reference's -/
def rix (c : Int) : Int := if c = 10 then 0 else c - 31
def rs (a b : Int64) (c : Int) : Int := if (if rix c < 64 then lb a (rix c).toNat else lb b (rix c - 64).toNat) = true then 1 else 0
def rone (c : Int) : Int64 := if 64 ≤ rix c then Int64.ofNat ((0 : Fin 2) : Nat) else ev_lshl (Int64.ofNat ((1 : Fin 2) : Nat)) (rix c)
def rtwo (c : Int) : Int64 := if 64 ≤ rix c then ev_lshl (Int64.ofNat ((1 : Fin 2) : Nat)) (rix c - 64) else Int64.ofNat ((0 : Fin 2) : Nat)
theorem sp_242 {Q : Nat} {c : Int} {S : ev_St} (hc : 0 ≤ c ∧ c ≤ 1000) : jm_242 Q c S = some (rone c, S) := by
  unfold jm_242 rone rix
  rw [sp_jn]
  by_cases h : c = 10
  · rw [if_neg (fun z => z h), if_pos h]
    rfl
  · rw [if_pos h, if_neg h, sp_ck (by omega)]
    dsimp only
    split <;> rfl
theorem sp_243 {Q : Nat} {c : Int} {S : ev_St} (hc : 0 ≤ c ∧ c ≤ 1000) : jm_243 Q c S = some (rtwo c, S) := by
  unfold jm_243 rtwo rix
  rw [sp_jn]
  by_cases h : c = 10
  · rw [if_neg (fun z => z h), if_pos h]
    rfl
  · rw [if_pos h, if_neg h, sp_ck (by omega)]
    dsimp only
    split
    · rw [sp_ck (by omega)]
      rfl
    · rfl
theorem sign_ix {c : Int} (h : sp_sign c = 1) : 0 ≤ rix c ∧ rix c < 96 := by
  unfold sp_sign at h
  unfold rix
  split at h
  · split <;> omega
  · omega
/-- a bit of one character -/
theorem lb_rone {c : Int} (h : sp_sign c = 1) {i : Nat} (hi : i < 64) : lb (rone c) i = decide ((i : Int) = rix c) := by
  have q := sign_ix h
  unfold rone
  split
  · rw [lb_0]
    simp
    omega
  · exact lb_one (by omega) hi
theorem lb_rtwo {c : Int} (h : sp_sign c = 1) {i : Nat} (hi : i < 64) : lb (rtwo c) i = decide ((i : Int) + 64 = rix c) := by
  have q := sign_ix h
  unfold rtwo
  split
  · rw [lb_one (by omega) hi]
    by_cases e : (i : Int) + 64 = rix c
    · rw [decide_eq_true e, decide_eq_true (by omega)]
    · rw [decide_eq_false e, decide_eq_false (by omega)]
  · rw [lb_0]
    simp
    omega
/-- one bit alone: and with it -/
theorem lb_pick {a y : Int64} {k : Nat} (hk : k < 64) (hy : ∀ i, i < 64 → lb y i = decide (i = k)) : a &&& y = 0 ↔ lb a k = false := by
  constructor
  · intro e
    have q := lb_and a y k
    rw [e, hy k hk, decide_eq_true rfl, Bool.and_true] at q
    rw [← q]
    exact lb_0 k
  · intro e
    apply lb_ext
    intro i hi
    rw [lb_and, hy i hi, show lb 0 i = false from lb_0 i]
    by_cases h : i = k
    · subst h
      rw [e]
      rfl
    · simp [h]
theorem lb_none {a y : Int64} (hy : ∀ i, i < 64 → lb y i = false) : a &&& y = 0 := by
  apply lb_ext
  intro i hi
  rw [lb_and, hy i hi, show lb 0 i = false from lb_0 i, Bool.and_false]
theorem sp_244 {Q : Nat} {a b : Int64} {c : Int} {S : ev_St} (hc : sp_sign c = 1) : jm_244 Q a b c S = some (rs a b c, S) := by
  have q := sign_ix hc
  have r := sp_sign_r hc
  unfold jm_244 rs
  rw [sp_242 (by omega), sp_bd, sp_b, sp_b]
  by_cases h : rix c < 64
  · have p := lb_pick (a := a) (y := rone c) (k := (rix c).toNat) (by omega) (fun i hi => by
      rw [lb_rone hc hi]
      by_cases e : (i : Int) = rix c
      · rw [decide_eq_true e, decide_eq_true (by omega)]
      · rw [decide_eq_false e, decide_eq_false (by omega)])
    rw [if_pos h]
    by_cases e : lb a (rix c).toNat = false
    · have n := lb_none (a := b) (y := rtwo c) (fun i hi => by rw [lb_rtwo hc hi]; simp; omega)
      rw [if_neg (fun z => z ((lcmp_0 _).mpr (p.mpr e))), sp_243 (by omega), sp_bd, sp_b, sp_b, if_pos ((lcmp_0 _).mpr n), if_neg (by rw [e]; simp)]
    · rw [if_pos (fun z => e (p.mp ((lcmp_0 _).mp z))), if_pos (by simpa using e)]
  · have n := lb_none (a := a) (y := rone c) (fun i hi => by rw [lb_rone hc hi]; simp; omega)
    have p := lb_pick (a := b) (y := rtwo c) (k := (rix c - 64).toNat) (by omega) (fun i hi => by
      rw [lb_rtwo hc hi]
      by_cases e : (i : Int) + 64 = rix c
      · rw [decide_eq_true e, decide_eq_true (by omega)]
      · rw [decide_eq_false e, decide_eq_false (by omega)])
    rw [if_neg h, if_neg (fun z => z ((lcmp_0 _).mpr n)), sp_243 (by omega), sp_bd, sp_b, sp_b]
    by_cases e : lb b (rix c - 64).toNat = false
    · rw [if_pos ((lcmp_0 _).mpr (p.mpr e)), if_neg (by rw [e]; simp)]
    · rw [if_neg (fun z => e (p.mp ((lcmp_0 _).mp z))), if_pos (by simpa using e)]
