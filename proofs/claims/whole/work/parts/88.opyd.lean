/-! LITERAL: the only sign of a set, on both sides -/
section OPYD
variable {Q k n m p g : Nat} {l h a b : Int64} {U T0 : ev_St} {x : Int}
def cntN : (Nat → Bool) → Nat → Nat
  | _, 0 => 0
  | f, n + 1 => (f 0).toNat + cntN (fun i => f (i + 1)) n
theorem cntN_add : ∀ (n : Nat) (f : Nat → Bool) (m : Nat), cntN f (n + m) = cntN f n + cntN (fun i => f (n + i)) m := fun n => by
  induction n with
  | zero =>
    intro f m
    rw [Nat.zero_add]
    show cntN f m = 0 + cntN (fun i => f (0 + i)) m
    rw [Nat.zero_add]
    exact congrArg (fun w => cntN w m) (funext fun i => by rw [Nat.zero_add])
  | succ n ih =>
    intro f m
    rw [show n + 1 + m = (n + m) + 1 from by omega]
    show (f 0).toNat + cntN (fun i => f (i + 1)) (n + m) = ((f 0).toNat + cntN (fun i => f (i + 1)) n) + cntN (fun i => f (n + 1 + i)) m
    rw [ih]
    have e : (fun i => f (n + i + 1)) = fun i => f (n + 1 + i) := funext fun i => by rw [show n + i + 1 = n + 1 + i from by omega]
    rw [e]
    omega
theorem cntN_c : ∀ (n : Nat) (f f' : Nat → Bool), (∀ i, i < n → f i = f' i) → cntN f n = cntN f' n := fun n => by
  induction n with
  | zero => exact fun _ _ _ => rfl
  | succ n ih =>
    intro f f' e
    show (f 0).toNat + cntN (fun i => f (i + 1)) n = (f' 0).toNat + cntN (fun i => f' (i + 1)) n
    rw [e 0 (by omega), ih _ (fun i => f' (i + 1)) (fun i hi => e (i + 1) (by omega))]
theorem smm_cnt : ∀ n X, smm pcm n X = cntN (fun i => X.testBit i) (8 * n) := fun n => by
  induction n with
  | zero => exact fun _ => rfl
  | succ n ih =>
    intro X
    show pcm (X % 256) + smm pcm n (X / 256) = _
    rw [show 8 * (n + 1) = 8 + 8 * n from by omega, cntN_add, ih]
    have e1 : pcm (X % 256) = cntN (fun i => X.testBit i) 8 := by
      rw [cntN_c 8 (fun i => X.testBit i) (fun i => (X % 256).testBit i) (fun i hi => by
        rw [show (256 : Nat) = 2 ^ 8 from rfl, Nat.testBit_mod_two_pow, decide_eq_true hi, Bool.true_and])]
      unfold pcm
      show _ = ((X % 256).testBit 0).toNat + (((X % 256).testBit 1).toNat + (((X % 256).testBit 2).toNat + (((X % 256).testBit 3).toNat + (((X % 256).testBit 4).toNat + (((X % 256).testBit 5).toNat + (((X % 256).testBit 6).toNat + (((X % 256).testBit 7).toNat + 0)))))))
      omega
    have e2 : cntN (fun i => (X / 256).testBit i) (8 * n) = cntN (fun i => X.testBit (8 + i)) (8 * n) := cntN_c _ _ _ (fun i _ => by
      rw [show (256 : Nat) = 2 ^ 8 from rfl, Nat.testBit_div_two_pow, Nat.add_comm])
    rw [e1, e2]
/-- how many signs from x on, n at most, are in the class's set -/
def cz (l h : Int64) : Nat → Int → Nat
  | 0, _ => 0
  | n + 1, x => (if cs l h x = 1 then 1 else 0) + cz l h n (x + 1)
theorem cz_add : ∀ (n m : Nat) (x : Int), cz l h (n + m) x = cz l h n x + cz l h m (x + n) := fun n => by
  induction n with
  | zero =>
    intro m x
    rw [Nat.zero_add, show x + ((0 : Nat) : Int) = x from by omega]
    show _ = 0 + _
    omega
  | succ n ih =>
    intro m x
    rw [show n + 1 + m = (n + m) + 1 from by omega]
    show (if cs l h x = 1 then 1 else 0) + cz l h (n + m) (x + 1) = ((if cs l h x = 1 then 1 else 0) + cz l h n (x + 1)) + cz l h m (x + ((n + 1 : Nat) : Int))
    rw [ih, show x + 1 + (n : Int) = x + ((n + 1 : Nat) : Int) from by omega]
    omega
theorem cs_lo {j : Nat} (hj : j < 64) : (if cs l h (j : Int) = 1 then 1 else 0) = (lb l j).toNat := by
  unfold cs
  have e : (if (j : Int) < 64 then lb l (j : Int).toNat else lb h ((j : Int) - 64).toNat) = lb l j := by
    rw [if_pos (by omega), Int.toNat_natCast]
  rw [e]
  cases hb : lb l j with
  | true => rw [if_pos (show (0 : Int) ≤ (j : Int) ∧ (j : Int) < 128 ∧ true = true from ⟨by omega, by omega, rfl⟩), if_pos rfl]; rfl
  | false => rw [if_neg (show ¬ ((if (0 : Int) ≤ (j : Int) ∧ (j : Int) < 128 ∧ false = true then (1 : Int) else 0) = 1) by rw [if_neg (fun z => Bool.noConfusion z.2.2)]; decide)]; rfl
theorem cs_hi {j : Nat} (hj : j < 64) : (if cs l h (((64 + j : Nat) : Nat) : Int) = 1 then 1 else 0) = (lb h j).toNat := by
  unfold cs
  have e : (if ((64 + j : Nat) : Int) < 64 then lb l ((64 + j : Nat) : Int).toNat else lb h (((64 + j : Nat) : Int) - 64).toNat) = lb h j := by
    rw [if_neg (by omega), show (((64 + j : Nat) : Int) - 64).toNat = j from by omega]
  rw [e]
  cases hb : lb h j with
  | true => rw [if_pos (show (0 : Int) ≤ ((64 + j : Nat) : Int) ∧ ((64 + j : Nat) : Int) < 128 ∧ true = true from ⟨by omega, by omega, rfl⟩), if_pos rfl]; rfl
  | false => rw [if_neg (show ¬ ((if (0 : Int) ≤ ((64 + j : Nat) : Int) ∧ ((64 + j : Nat) : Int) < 128 ∧ false = true then (1 : Int) else 0) = 1) by rw [if_neg (fun z => Bool.noConfusion z.2.2)]; decide)]; rfl
theorem cz_lo : ∀ n j : Nat, j + n ≤ 64 → cz l h n (j : Int) = cntN (fun i => lb l (j + i)) n := fun n => by
  induction n with
  | zero => exact fun _ _ => rfl
  | succ n ih =>
    intro j hj
    show (if cs l h (j : Int) = 1 then 1 else 0) + cz l h n ((j : Int) + 1) = (lb l (j + 0)).toNat + cntN (fun i => lb l (j + (i + 1))) n
    rw [cs_lo (by omega), show (j : Int) + 1 = ((j + 1 : Nat) : Int) from by omega, ih (j + 1) (by omega), Nat.add_zero]
    exact congrArg _ (congrArg (fun w => cntN w n) (funext fun i => by rw [show j + 1 + i = j + (i + 1) from by omega]))
theorem cz_hi : ∀ n j : Nat, j + n ≤ 64 → cz l h n ((64 + j : Nat) : Int) = cntN (fun i => lb h (j + i)) n := fun n => by
  induction n with
  | zero => exact fun _ _ => rfl
  | succ n ih =>
    intro j hj
    show (if cs l h ((64 + j : Nat) : Int) = 1 then 1 else 0) + cz l h n (((64 + j : Nat) : Int) + 1) = (lb h (j + 0)).toNat + cntN (fun i => lb h (j + (i + 1))) n
    rw [cs_hi (by omega), show ((64 + j : Nat) : Int) + 1 = ((64 + (j + 1) : Nat) : Int) from by omega, ih (j + 1) (by omega), Nat.add_zero]
    exact congrArg _ (congrArg (fun w => cntN w n) (funext fun i => by rw [show j + 1 + i = j + (i + 1) from by omega]))
/-- the class's count of a set -/
theorem bc_cz : bcC l + bcC h = ((cz l h 128 0 : Nat) : Int) := by
  have e1 : smm pcm 8 (un l) = cz l h 64 ((0 : Nat) : Int) := by
    rw [smm_cnt, cz_lo 64 0 (by omega)]
    exact cntN_c 64 _ _ (fun i _ => by rw [Nat.zero_add]; rfl)
  have e2 : smm pcm 8 (un h) = cz l h 64 ((64 + 0 : Nat) : Int) := by
    rw [smm_cnt, cz_hi 64 0 (by omega)]
    exact cntN_c 64 _ _ (fun i _ => by rw [Nat.zero_add]; rfl)
  have e3 := cz_add (l := l) (h := h) 64 64 0
  rw [bc_sum, bc_sum, e1, e2]
  have e4 : ((64 + 0 : Nat) : Int) = (0 : Int) + ((64 : Nat) : Int) := by omega
  rw [e4, show ((0 : Nat) : Int) = 0 from rfl]
  have e5 : cz l h 128 0 = cz l h 64 0 + cz l h 64 ((0 : Int) + ((64 : Nat) : Int)) := e3
  omega
theorem cz_0 : ∀ (n : Nat) (x : Int), (∀ c, x ≤ c → c < x + n → cs l h c ≠ 1) → cz l h n x = 0 := fun n => by
  induction n with
  | zero => exact fun _ _ => rfl
  | succ n ih =>
    intro x hx
    show (if cs l h x = 1 then 1 else 0) + cz l h n (x + 1) = 0
    rw [if_neg (hx x (by omega) (by omega)), ih (x + 1) (fun c c1 c2 => hx c (by omega) (by omega))]
theorem lowC_end : ∀ (n : Nat) (x : Int), cs l h (x + n) ≠ 1 → lowC l h (n + 1) x = lowC l h n x := fun n => by
  induction n with
  | zero =>
    intro x hx
    rw [show x + ((0 : Nat) : Int) = x from by omega] at hx
    show (if cs l h x = 1 then x else -1) = -1
    rw [if_neg hx]
  | succ n ih =>
    intro x hx
    show (if cs l h x = 1 then x else lowC l h (n + 1) (x + 1)) = (if cs l h x = 1 then x else lowC l h n (x + 1))
    rw [ih (x + 1) (by rw [show x + 1 + (n : Int) = x + ((n + 1 : Nat) : Int) from by omega]; exact hx)]
/-- the reference looks all signs through -/
theorem run278 (hg : g < 4160) (hs : SB l h (U.2.1 633 g) (U.2.1 634 g)) (hv : SV l h) : ∀ (r q x : Nat) (x1 : Int) (x2 : Nat), r < q → x + r = 127 → 10 ≤ x → x2 ≤ x → jl_278_8 Q (g : Int) q x1 (x2 : Int) (x : Int) U = some (if x2 + cz l h r (x : Int) = 1 then (if x2 = 1 then x1 else lowC l h r (x : Int)) else -1, U) := fun r => by
  obtain ⟨l25, l26, l27, l28, _, l30, l31, l32, l33, l34, _⟩ := al_K
  induction r with
  | zero =>
    intro q x x1 x2 hq hx h10 h2
    obtain ⟨q, rfl⟩ : ∃ r, q = r + 1 := ⟨q - 1, by omega⟩
    show jb_278_8 Q _ _ _ _ _ U = _
    unfold jb_278_8
    rw [if_pos (by omega)]
    show _ = some (if x2 + 0 = 1 then (if x2 = 1 then x1 else -1) else -1, U)
    by_cases y : x2 = 1
    · rw [if_neg (by omega), if_pos (by omega), if_pos y]
    · rw [if_pos (by omega), if_neg (by omega)]
  | succ r ih =>
    intro q x x1 x2 hq hx h10 h2
    obtain ⟨q, rfl⟩ : ∃ r, q = r + 1 := ⟨q - 1, by omega⟩
    show jb_278_8 Q _ _ _ _ _ U = _
    unfold jb_278_8
    rw [if_neg (by omega), sp_223, sp_bd, sp_jn]
    have ec : cz l h (r + 1) (x : Int) = (if cs l h (x : Int) = 1 then 1 else 0) + cz l h r (((x + 1 : Nat)) : Int) := by
      rw [show (((x + 1 : Nat)) : Int) = (x : Int) + 1 from by omega]
      rfl
    have el : lowC l h (r + 1) (x : Int) = if cs l h (x : Int) = 1 then (x : Int) else lowC l h r (((x + 1 : Nat)) : Int) := by
      rw [show (((x + 1 : Nat)) : Int) = (x : Int) + 1 from by omega]
      rfl
    have no : cs l h (x : Int) ≠ 1 → (ev_ck ((x : Int) + 1) fun x24 => jl_278_8 Q (g : Int) q x1 (x2 : Int) x24 U) = some (if x2 + cz l h (r + 1) (x : Int) = 1 then (if x2 = 1 then x1 else lowC l h (r + 1) (x : Int)) else -1, U) := fun z => by
      rw [sp_ck (by omega), show (x : Int) + 1 = ((x + 1 : Nat) : Int) from by omega, ih q (x + 1) x1 x2 (by omega) (by omega) (by omega) (by omega), ec, el, if_neg z, if_neg z, Nat.zero_add]
    rcases @if01 ((x : Int) = 10 ∨ (32 ≤ (x : Int) ∧ (x : Int) ≤ 126)) _ with y | y
    · have ys : sp_sign (x : Int) = 1 := y
      rw [ys, if_neg (by decide), sp_if (by rw [l33]; omega), sp_b, sp_if (by rw [l34]; omega), sp_b, Int.toNat_natCast, sp_244 ys, sp_bd, ← SB_cs hs ys]
      rcases cs_01 (l := l) (h := h) (c := (x : Int)) with w | w
      · rw [w, if_pos rfl]
        exact no (by omega)
      · rw [w, if_neg (by decide), sp_ck (by omega)]
        try dsimp only
        rw [sp_ck (by omega), show (x : Int) + 1 = ((x + 1 : Nat) : Int) from by omega, show (x2 : Int) + 1 = ((x2 + 1 : Nat) : Int) from by omega, ih q (x + 1) (x : Int) (x2 + 1) (by omega) (by omega) (by omega) (by omega), ec, el, if_pos w, if_pos w]
        by_cases v : x2 + 1 + cz l h r ((x + 1 : Nat) : Int) = 1
        · rw [if_pos v, if_pos (by omega), if_pos (by omega), if_neg (by omega)]
        · rw [if_neg v, if_neg (by omega)]
    · have ys : sp_sign (x : Int) = 0 := y
      rw [ys, if_pos rfl]
      exact no (by rw [cs_bad hv (by omega)]; decide)
theorem sp_278 (hQ : 400 ≤ Q) (hg : g < 4160) (hs : SB l h (U.2.1 633 g) (U.2.1 634 g)) (hv : SV l h) : jm_278 Q (g : Int) U = some (if bcC l + bcC h = 1 then lowC l h 128 0 else -1, U) := by
  have r := run278 (Q := Q) hg hs hv 117 Q 10 (-1) 0 (by omega) rfl (by omega) (by omega)
  have ng : ∀ c : Int, sp_sign c ≠ 1 → cs l h c ≠ 1 := fun c hc => by rw [cs_bad hv hc]; decide
  have s0 : ∀ c : Int, (0 ≤ c ∧ c < 10) ∨ c = 127 → sp_sign c ≠ 1 := fun c hc => by
    unfold sp_sign
    rw [if_neg (by omega)]
    decide
  have e1 : cz l h 128 0 = cz l h 117 ((10 : Nat) : Int) := by
    have a1 := cz_add (l := l) (h := h) 10 118 0
    have a2 := cz_add (l := l) (h := h) 117 1 ((0 : Int) + ((10 : Nat) : Int))
    have a3 := cz_0 (l := l) (h := h) 10 0 (fun c c1 c2 => ng c (s0 c (by omega)))
    have a4 := cz_0 (l := l) (h := h) 1 ((0 : Int) + ((10 : Nat) : Int) + ((117 : Nat) : Int)) (fun c c1 c2 => ng c (s0 c (by omega)))
    have a5 : cz l h 128 0 = cz l h 10 0 + cz l h 118 ((0 : Int) + ((10 : Nat) : Int)) := a1
    have a6 : cz l h 118 ((0 : Int) + ((10 : Nat) : Int)) = cz l h 117 ((0 : Int) + ((10 : Nat) : Int)) + cz l h 1 ((0 : Int) + ((10 : Nat) : Int) + ((117 : Nat) : Int)) := a2
    rw [a5, a6, a3, a4, show (0 : Int) + ((10 : Nat) : Int) = ((10 : Nat) : Int) from by omega]
    omega
  have e2 : lowC l h 128 0 = lowC l h 117 ((10 : Nat) : Int) := by
    have a1 := lowC_sk (l := l) (h := h) 10 118 0 (fun c c1 c2 => ng c (s0 c (by omega)))
    have a2 := lowC_end (l := l) (h := h) 117 ((10 : Nat) : Int) (ng _ (s0 _ (by omega)))
    have a3 : lowC l h 128 0 = lowC l h 118 ((0 : Int) + ((10 : Nat) : Int)) := a1
    rw [a3, show (0 : Int) + ((10 : Nat) : Int) = ((10 : Nat) : Int) from by omega]
    exact a2
  rw [bc_cz, e1, e2]
  unfold jm_278
  have r' : jl_278_8 Q (g : Int) Q (-1) 0 10 U = _ := r
  rw [r', Nat.zero_add]
  by_cases y : cz l h 117 ((10 : Nat) : Int) = 1
  · rw [if_pos y, if_neg (by decide), if_pos (by omega)]
  · rw [if_neg y, if_neg (by omega)]
end OPYD
