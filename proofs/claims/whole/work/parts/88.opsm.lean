/-! SETS OF CHARACTERS: class's against reference's -/
def cb (l h : Int64) (c : Int) : Bool := if c < 64 then lb l c.toNat else lb h (c - 64).toNat
def rb (a b : Int64) (c : Int) : Bool := if rix c < 64 then lb a (rix c).toNat else lb b (rix c - 64).toNat
theorem cs_cb {l h : Int64} {c : Int} (hc : sp_sign c = 1) : cs l h c = if cb l h c = true then 1 else 0 := by
  have q := sp_sign_r hc
  unfold cs
  by_cases e : cb l h c = true
  · rw [if_pos e, if_pos ⟨by omega, by omega, e⟩]
  · rw [if_neg e, if_neg (fun z => e z.2.2)]
theorem rs_rb {a b : Int64} {c : Int} : rs a b c = if rb a b c = true then 1 else 0 := rfl
/-- the same characters -/
def SBz (l h a b : Int64) : Prop := ∀ c, sp_sign c = 1 → cb l h c = rb a b c
/-- no bits but those of characters, reference's second long -/
def RVz (b : Int64) : Prop := ∀ i, i < 64 → lb b i = true → i < 32
/-- the same characters, and nothing else in the reference's -/
def SB (l h a b : Int64) : Prop := SBz l h a b ∧ RVz b
/-- no bits but those of characters -/
def SV (l h : Int64) : Prop := (∀ i, i < 64 → lb l i = true → i = 10 ∨ 32 ≤ i) ∧ (∀ i, i < 64 → lb h i = true → i ≤ 62)
theorem SB_cs {l h a b : Int64} (H : SB l h a b) {c : Int} (hc : sp_sign c = 1) : cs l h c = rs a b c := by
  rw [cs_cb hc, rs_rb, H.1 c hc]
theorem cs_bad {l h : Int64} (H : SV l h) {c : Int} (hc : sp_sign c ≠ 1) : cs l h c = 0 := by
  have hs : ¬ (c = 10 ∨ (32 ≤ c ∧ c ≤ 126)) := fun z => hc (by unfold sp_sign; rw [if_pos z])
  unfold cs
  refine if_neg (fun z => ?_)
  obtain ⟨z1, z2, z3⟩ := z
  by_cases e : c < 64
  · rw [if_pos e] at z3
    have := H.1 _ (by omega) z3
    omega
  · rw [if_neg e] at z3
    have := H.2 _ (by omega) z3
    omega
theorem lb_not (x : Int64) {i : Nat} (hi : i < 64) : lb (x ^^^ (-1)) i = !lb x i := by
  rw [lb_xor, lb_m1 ⟨i, hi⟩]
  cases lb x i <;> rfl
theorem lb_aL : ∀ i : Fin 64, lb (-4294966272) i.1 = (decide (i.1 = 10) || decide (32 ≤ i.1)) := by decide +kernel
theorem lb_aH : ∀ i : Fin 64, lb 9223372036854775807 i.1 = decide (i.1 ≤ 62) := by decide +kernel
theorem lb_32 : ∀ i : Fin 64, lb 4294967295 i.1 = decide (i.1 < 32) := by decide +kernel
theorem RVz_or {b b' : Int64} (h : RVz b) (h' : RVz b') : RVz (b ||| b') := fun i hi e => by
  rw [lb_or, Bool.or_eq_true] at e
  rcases e with e | e
  · exact h i hi e
  · exact h' i hi e
theorem RVz_and {b : Int64} (h : RVz b) (b' : Int64) : RVz (b &&& b') := fun i hi e => by
  rw [lb_and, Bool.and_eq_true] at e
  exact h i hi e.1
theorem RVz_m {b : Int64} : RVz (b &&& 4294967295) := fun i hi e => by
  rw [lb_and, Bool.and_eq_true, lb_32 ⟨i, hi⟩] at e
  exact of_decide_eq_true e.2
theorem SB_or {l h a b l' h' a' b' : Int64} (H : SB l h a b) (H' : SB l' h' a' b') : SB (l ||| l') (h ||| h') (a ||| a') (b ||| b') := ⟨fun c hc => by
  have q := H.1 c hc
  have q' := H'.1 c hc
  unfold cb rb at q q' ⊢
  simp only [lb_or]
  (repeat' split) <;> simp_all, RVz_or H.2 H'.2⟩
theorem SB_and {l h a b l' h' a' b' : Int64} (H : SB l h a b) (H' : SBz l' h' a' b') : SB (l &&& l') (h &&& h') (a &&& a') (b &&& b') := ⟨fun c hc => by
  have q := H.1 c hc
  have q' := H' c hc
  unfold cb rb at q q' ⊢
  simp only [lb_and]
  (repeat' split) <;> simp_all, RVz_and H.2 _⟩
theorem SB_not {l h a b : Int64} (H : SBz l h a b) : SBz (l ^^^ (-1)) (h ^^^ (-1)) (a ^^^ (-1)) (b ^^^ (-1)) := fun c hc => by
  have q := H c hc
  have r := sign_ix hc
  have s := sp_sign_r hc
  unfold cb rb at q ⊢
  by_cases e1 : c < 64
  · rw [if_pos e1] at q ⊢
    rw [lb_not _ (by omega), q]
    by_cases e2 : rix c < 64
    · rw [if_pos e2, if_pos e2, lb_not _ (by omega)]
    · rw [if_neg e2, if_neg e2, lb_not _ (by omega)]
  · rw [if_neg e1] at q ⊢
    rw [lb_not _ (by omega), q]
    by_cases e2 : rix c < 64
    · rw [if_pos e2, if_pos e2, lb_not _ (by omega)]
    · rw [if_neg e2, if_neg e2, lb_not _ (by omega)]
theorem SB_all {l h a b : Int64} (H : SBz l h a b) : SB ((-4294966272) &&& l) (9223372036854775807 &&& h) a (b &&& 4294967295) := ⟨fun c hc => by
  have q := H c hc
  have r := sign_ix hc
  have s : c = 10 ∨ (32 ≤ c ∧ c ≤ 126) := by
    unfold sp_sign at hc
    split at hc
    · assumption
    · omega
  unfold cb rb at q ⊢
  by_cases e1 : c < 64
  · rw [if_pos e1] at q ⊢
    rw [lb_and, lb_aL ⟨c.toNat, by omega⟩, q]
    by_cases e2 : rix c < 64
    · rw [if_pos e2, if_pos e2]
      simp
      omega
    · rw [if_neg e2, if_neg e2, lb_and, lb_32 ⟨(rix c - 64).toNat, by omega⟩]
      unfold rix at e2
      split at e2 <;> omega
  · rw [if_neg e1] at q ⊢
    have qH := lb_aH ⟨(c - 64).toNat, by omega⟩
    dsimp only at qH
    rw [lb_and, qH, q, decide_eq_true (show (c - 64).toNat ≤ 62 by omega), Bool.true_and]
    by_cases e2 : rix c < 64
    · rw [if_pos e2, if_pos e2]
    · have q3 := lb_32 ⟨(rix c - 64).toNat, by omega⟩
      dsimp only at q3
      rw [if_neg e2, if_neg e2, lb_and, q3, decide_eq_true (show (rix c - 64).toNat < 32 by omega), Bool.and_true], RVz_m⟩
theorem SV_or {l h l' h' : Int64} (H : SV l h) (H' : SV l' h') : SV (l ||| l') (h ||| h') := by
  refine ⟨fun i hi e => ?_, fun i hi e => ?_⟩
  · rw [lb_or, Bool.or_eq_true] at e
    rcases e with e | e
    · exact H.1 i hi e
    · exact H'.1 i hi e
  · rw [lb_or, Bool.or_eq_true] at e
    rcases e with e | e
    · exact H.2 i hi e
    · exact H'.2 i hi e
theorem SV_and {l h : Int64} (H : SV l h) (l' h' : Int64) : SV (l &&& l') (h &&& h') := by
  refine ⟨fun i hi e => ?_, fun i hi e => ?_⟩
  · rw [lb_and, Bool.and_eq_true] at e
    exact H.1 i hi e.1
  · rw [lb_and, Bool.and_eq_true] at e
    exact H.2 i hi e.1
theorem SV_all : SV (-4294966272) 9223372036854775807 := by
  refine ⟨fun i hi e => ?_, fun i hi e => ?_⟩
  · rw [lb_aL ⟨i, hi⟩] at e
    simpa using e
  · rw [lb_aH ⟨i, hi⟩] at e
    simpa using e
theorem SB_0 : SB (Int64.ofNat ((0 : Fin 2) : Nat)) (Int64.ofNat ((0 : Fin 2) : Nat)) (Int64.ofNat ((0 : Fin 2) : Nat)) (Int64.ofNat ((0 : Fin 2) : Nat)) := ⟨fun c hc => by
  unfold cb rb
  simp only [lb_0]
  (repeat' split) <;> rfl, fun i _ e => absurd e (by rw [lb_0]; decide)⟩
theorem SV_0 : SV (Int64.ofNat ((0 : Fin 2) : Nat)) (Int64.ofNat ((0 : Fin 2) : Nat)) := ⟨fun i _ e => absurd e (by rw [lb_0]; decide), fun i _ e => absurd e (by rw [lb_0]; decide)⟩
/-! a character's other case; ranges -/
def oth (c : Int) : Int := if 97 ≤ c ∧ c ≤ 122 then c - 32 else if 65 ≤ c ∧ c ≤ 90 then c + 32 else c
theorem sp_ixor32 : ∀ k : Fin 128, ((97 ≤ k.1 ∧ k.1 ≤ 122) ∨ (65 ≤ k.1 ∧ k.1 ≤ 90)) → ev_ixor ((k.1 : Nat) : Int) 32 = oth ((k.1 : Nat) : Int) := by decide +kernel
theorem sp_229 {Q : Nat} {c : Int} {S : ev_St} : jm_229 Q c S = some (oth c, S) := by
  have i3 := ch_a_i c
  unfold jm_229
  rw [sp_225, sp_bd]
  by_cases h : ch_a c = 0
  · rw [if_pos h]
    unfold oth
    rw [if_neg (by omega), if_neg (by omega)]
  · have q := sp_ixor32 ⟨c.toNat, by omega⟩ (by dsimp only; omega)
    dsimp only at q
    rw [show ((c.toNat : Nat) : Int) = c from by omega] at q
    rw [if_neg h, sp_b, q]
theorem oth_sign {c : Int} (h : sp_sign c = 1) : sp_sign (oth c) = 1 := by
  unfold sp_sign at h ⊢
  split at h
  · unfold oth
    rw [if_pos]
    (repeat' split) <;> omega
  · omega
theorem lb_shl (x : Int64) {k : Int} (hk : 0 ≤ k ∧ k < 64) {i : Nat} (hi : i < 64) : lb (ev_lshl x k) i = (decide (k ≤ (i : Int)) && lb x (i - k.toNat)) := by
  have e := lb_shl_k ⟨k.toNat, by omega⟩
  dsimp only at e
  rw [show ((k.toNat : Nat) : Int) = k from by omega] at e
  unfold lb ev_lshl
  rw [Int64.toBitVec_shiftLeft]
  show (x.toBitVec <<< (((Int32.ofInt k).toInt64 &&& 63).toBitVec.smod 64).toNat).getLsbD i = _
  rw [e, BitVec.getLsbD_shiftLeft]
  by_cases h : k ≤ (i : Int)
  · rw [decide_eq_true h, decide_eq_true hi]
    simp
    omega
  · rw [decide_eq_false h]
    simp
    omega
theorem lb_U : ∀ i : Fin 64, lb 134217726 i.1 = (decide (1 ≤ i.1) && decide (i.1 ≤ 26)) := by decide +kernel
theorem lb_L : ∀ i : Fin 64, lb 576460743713488896 i.1 = (decide (33 ≤ i.1) && decide (i.1 ≤ 58)) := by decide +kernel
/-- the high half with both cases -/
def fh (h : Int64) : Int64 := (h ||| ev_lshl (h &&& 134217726) 32) ||| ev_lushr (h &&& 576460743713488896) 32
theorem sp_215 {Q : Nat} {h : Int64} {S : ev_St} : jm_215 Q h S = some (fh h, S) := rfl
theorem lb_fh (h : Int64) {i : Nat} (hi : i < 64) : lb (fh h) i = (lb h i || (decide (33 ≤ i ∧ i ≤ 58) && lb h (i - 32)) || (decide (1 ≤ i ∧ i ≤ 26) && lb h (i + 32))) := by
  unfold fh
  rw [lb_or, lb_or, lb_shl _ (by omega) hi, lb_ushr _ (by omega), lb_and, lb_and, show (32 : Int).toNat = 32 from rfl, Nat.add_comm 32 i]
  have e1 : (decide ((32 : Int) ≤ (i : Int)) && (lb h (i - 32) && lb 134217726 (i - 32))) = (decide (33 ≤ i ∧ i ≤ 58) && lb h (i - 32)) := by
    by_cases h1 : 32 ≤ i
    · rw [lb_U ⟨i - 32, by omega⟩, decide_eq_true (show (32 : Int) ≤ (i : Int) by omega)]
      by_cases h2 : 33 ≤ i ∧ i ≤ 58
      · rw [decide_eq_true h2, decide_eq_true (show 1 ≤ i - 32 by omega), decide_eq_true (show i - 32 ≤ 26 by omega)]
        simp
      · rw [decide_eq_false h2]
        by_cases h3 : 1 ≤ i - 32
        · rw [decide_eq_false (show ¬ i - 32 ≤ 26 by omega)]
          simp
        · rw [decide_eq_false h3]
          simp
    · rw [decide_eq_false (show ¬ (32 : Int) ≤ (i : Int) by omega), decide_eq_false (show ¬ (33 ≤ i ∧ i ≤ 58) by omega)]
      rfl
  have e2 : (lb h (i + 32) && lb 576460743713488896 (i + 32)) = (decide (1 ≤ i ∧ i ≤ 26) && lb h (i + 32)) := by
    by_cases h1 : i + 32 < 64
    · rw [lb_L ⟨i + 32, h1⟩]
      by_cases h2 : 1 ≤ i ∧ i ≤ 26
      · rw [decide_eq_true h2, decide_eq_true (show 33 ≤ i + 32 by omega), decide_eq_true (show i + 32 ≤ 58 by omega)]
        simp
      · rw [decide_eq_false h2]
        by_cases h3 : 33 ≤ i + 32
        · rw [decide_eq_false (show ¬ i + 32 ≤ 58 by omega)]
          simp
        · rw [decide_eq_false h3]
          simp
    · rw [lb_ge h (by omega), decide_eq_false (show ¬ (1 ≤ i ∧ i ≤ 26) by omega)]
      rfl
  rw [e1, e2]
/-- with both cases: a character, or its other case -/
theorem cb_fh {l h : Int64} {c : Int} (hc : sp_sign c = 1) (hl : ∀ c', sp_sign c' = 1 → c' < 64 → True) : cb l (fh h) c = (cb l h c || (decide (oth c ≠ c) && cb l h (oth c))) := by
  have s := sp_sign_r hc
  unfold cb oth
  by_cases e1 : c < 64
  · rw [if_pos e1, if_pos e1, if_neg (show ¬ (97 ≤ c ∧ c ≤ 122) by omega), if_neg (show ¬ (65 ≤ c ∧ c ≤ 90) by omega)]
    simp
  · rw [if_neg e1, if_neg e1, lb_fh _ (by omega)]
    by_cases h1 : 97 ≤ c ∧ c ≤ 122
    · rw [if_pos h1, if_neg (show ¬ c - 32 < 64 by omega), decide_eq_true (show 33 ≤ (c - 64).toNat ∧ (c - 64).toNat ≤ 58 by omega), decide_eq_false (show ¬ (1 ≤ (c - 64).toNat ∧ (c - 64).toNat ≤ 26) by omega), decide_eq_true (show c - 32 ≠ c by omega), show (c - 64).toNat - 32 = (c - 32 - 64).toNat from by omega]
      simp
    · rw [if_neg h1]
      by_cases h2 : 65 ≤ c ∧ c ≤ 90
      · rw [if_pos h2, if_neg (show ¬ c + 32 < 64 by omega), decide_eq_false (show ¬ (33 ≤ (c - 64).toNat ∧ (c - 64).toNat ≤ 58) by omega), decide_eq_true (show 1 ≤ (c - 64).toNat ∧ (c - 64).toNat ≤ 26 by omega), decide_eq_true (show c + 32 ≠ c by omega), show (c - 64).toNat + 32 = (c + 32 - 64).toNat from by omega]
        simp
      · rw [if_neg h2, decide_eq_false (show ¬ (33 ≤ (c - 64).toNat ∧ (c - 64).toNat ≤ 58) by omega), decide_eq_false (show ¬ (1 ≤ (c - 64).toNat ∧ (c - 64).toNat ≤ 26) by omega)]
        simp
