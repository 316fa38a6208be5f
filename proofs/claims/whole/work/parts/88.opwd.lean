/-! FACTS: the reference's loops -/
section FACTR
variable {Q N o p : Nat} {X : Nat → Int} {T U : ev_St} {β : Type}
theorem i6_i {x : Int} (h : -2147483648 ≤ x ∧ x ≤ 2147483647) : ev_i2l x = Int64.ofInt x := by
  unfold ev_i2l
  apply Int64.toInt_inj.mp
  rw [Int32.toInt_toInt64, Int32.toInt_ofInt_of_le (by omega) (by omega), Int64.toInt_ofInt_of_le (by omega) (by omega)]
theorem i6_t {x : Int} (h : 0 ≤ x ∧ x < 4000000000000) : (Int64.ofInt x).toInt = x := Int64.toInt_ofInt_of_le (by omega) (by omega)
theorem i6_l {x : Int} (h : 0 ≤ x ∧ x ≤ 1000000) : ev_l2i (Int64.ofInt x) = x := by
  unfold ev_l2i
  rw [Int64.toInt_toInt32, i6_t (by omega)]
  exact Int.bmod_eq_of_le (by omega) (by omega)
theorem i6_add {a b : Int} : Int64.ofInt a + Int64.ofInt b = Int64.ofInt (a + b) := (Int64.ofInt_add a b).symm
theorem i6_mul {a b : Int} : Int64.ofInt a * Int64.ofInt b = Int64.ofInt (a * b) := (Int64.ofInt_mul a b).symm
theorem i6_0 : Int64.ofNat ((0 : Fin 2) : Nat) = Int64.ofInt 0 := rfl
theorem i6_1 : Int64.ofNat ((1 : Fin 2) : Nat) = Int64.ofInt 1 := rfl
theorem i6_2 : (2 : Int64) = Int64.ofInt 2 := rfl
/-- at most a million -/
def mlC (x : Int) : Int := if x ≤ 1000000 then x else 1000000
theorem mlC_i (x : Int) : (x ≤ 1000000 ∧ mlC x = x) ∨ (1000000 < x ∧ mlC x = 1000000) := by
  unfold mlC
  split <;> omega
theorem sp_266 {x : Int} (h : 0 ≤ x ∧ x < 4000000000000) : jm_266 Q (Int64.ofInt x) U = some (mlC x, U) := by
  unfold jm_266
  rw [sp_b]
  have e : (ev_lcmp (Int64.ofInt x) 1000000 ≤ 0) ↔ x ≤ 1000000 := by
    unfold ev_lcmp lg_cmp
    have q : (Int64.ofInt x > 1000000) ↔ 1000000 < x := by
      show (1000000 : Int64) < Int64.ofInt x ↔ _
      rw [Int64.lt_iff_toInt_lt, i6_t h]
      rfl
    by_cases z : 1000000 < x
    · rw [if_pos (q.mpr z)]
      constructor
      · intro y
        exact absurd y (by decide)
      · intro y
        omega
    · rw [if_neg (fun y => z (q.mp y))]
      constructor
      · intro _
        omega
      · intro _
        split <;> decide
  unfold mlC
  by_cases z : x ≤ 1000000
  · rw [if_pos (e.mpr z), if_pos z, sp_b, i6_l (by omega)]
  · rw [if_neg (fun y => z (e.mp y)), if_neg z]
/-- along a chain -/
def chl {α : Type} (X : Nat → Int) (f : α → Nat → α) : Nat → Int → α → α
  | 0, _, a => a
  | n + 1, c, a => if c = -1 then a else chl X f n (X c.toNat) (f a c.toNat)
/-- links go on -/
def lnX (N : Nat) (X : Nat → Int) : Prop := ∀ t, t < N → X t = -1 ∨ ∃ u : Nat, X t = (u : Int) ∧ t < u ∧ u < N
def cok (b N : Nat) (c : Int) : Prop := c = -1 ∨ ∃ u : Nat, c = (u : Int) ∧ b ≤ u ∧ u < N
theorem cok_n {b u : Nat} (hX : lnX N X) (hu : u < N) (hb : b ≤ u) : cok (b + 1) N (X u) := by
  rcases hX u hu with z | ⟨v, z, z1, z2⟩
  · exact Or.inl z
  · exact Or.inr ⟨v, z, by omega, z2⟩
theorem chl_rel {α γ : Type} (hX : lnX N X) (R : α → γ → Prop) {f : α → Nat → α} {g : γ → Nat → γ} {b0 : Nat} (hf : ∀ a a' t, b0 ≤ t → t < N → R a a' → R (f a t) (g a' t)) : ∀ (n b : Nat) (c : Int) (a : α) (a' : γ), b0 ≤ b → cok b N c → R a a' → R (chl X f n c a) (chl X g n c a')
  | 0, b, c, a, a', _, _, h => h
  | n + 1, b, c, a, a', hb, hc, h => by
    unfold chl
    rcases hc with z | ⟨u, z, z1, z2⟩
    · rw [if_pos z, if_pos z]
      exact h
    · rw [if_neg (by omega), if_neg (by omega), z, Int.toNat_natCast]
      exact chl_rel hX R hf n (b + 1) _ _ _ (by omega) (cok_n hX z2 z1) (hf a a' u (by omega) z2 h)
theorem chl_inv {α : Type} (hX : lnX N X) (P : α → Prop) {f : α → Nat → α} {b0 : Nat} (hf : ∀ a t, b0 ≤ t → t < N → P a → P (f a t)) (n b : Nat) (c : Int) (a : α) (hb : b0 ≤ b) (hc : cok b N c) (h : P a) : P (chl X f n c a) := chl_rel hX (fun a _ => P a) (g := fun (a : Unit) _ => a) (fun a _ t x y z => hf a t x y z) n b c a () hb hc h
theorem chl_eq {α : Type} (hX : lnX N X) {f g : α → Nat → α} {b0 : Nat} (hf : ∀ a t, b0 ≤ t → t < N → f a t = g a t) (n b : Nat) (c : Int) (a : α) (hb : b0 ≤ b) (hc : cok b N c) : chl X f n c a = chl X g n c a := chl_rel hX (fun a b => a = b) (fun a a' t x y z => by rw [hf a t x y, z]) n b c a a hb hc rfl
/-- what the reference's loop gathers: the fewest signs, sums, how many -/
def fcR (o : Nat) (U : ev_St) (a : Int × Int × Int × Int) (t : Nat) : Int × Int × Int × Int := (if a.1 = -1 ∨ U.1 640 (o + t) < a.1 then U.1 640 (o + t) else a.1, a.2.1 + U.1 641 (o + t), a.2.2.1 + U.1 643 (o + t), a.2.2.2 + 1)
def fcv (x : Int) : Prop := 0 ≤ x ∧ x ≤ 1000000
def fcV (o : Nat) (U : ev_St) (t : Nat) : Prop := fcv (U.1 640 (o + t)) ∧ fcv (U.1 641 (o + t)) ∧ fcv (U.1 642 (o + t)) ∧ fcv (U.1 643 (o + t))
theorem al_F : ev_aln 640 = 4160 ∧ ev_aln 641 = 4160 ∧ ev_aln 642 = 4160 ∧ ev_aln 643 = 4160 := by decide +kernel
theorem st268_85 {JJ : Int → ev_St → Option β} {x15 : Int} {t : Nat} (ho : o ≤ 3520) (ht : t < 320) : ev_jn JJ (fun K85 => ev_jn (fun  (s209 : ev_St) => ev_ck ((o:Int) + (t:Int)) fun x210 => ev_if ((0 : Int) ≤ x210 ∧ x210 < (ev_aln 640 : Int)) (ev_b (s209.1 640 (Int.toNat x210)) fun x211 => K85 x211 s209)) fun K71 => if x15 = (-1) then (K71  U) else (ev_ck ((o:Int) + (t:Int)) fun x213 => ev_if ((0 : Int) ≤ x213 ∧ x213 < (ev_aln 640 : Int)) (ev_b (U.1 640 (Int.toNat x213)) fun x214 => if x15 ≤ x214 then (K85 x15 U) else (K71  U)))) = JJ (if x15 = -1 ∨ U.1 640 (o + t) < x15 then U.1 640 (o + t) else x15) U := by
  have l := al_F.1
  have e : ((o : Int) + (t : Int)).toNat = o + t := by omega
  rw [sp_jn, sp_jn]
  by_cases h : x15 = -1
  · rw [if_pos h, if_pos (Or.inl h)]
    try dsimp only
    rw [sp_ck (by omega), sp_if (by rw [l]; omega), sp_b, e]
  · rw [if_neg h, sp_ck (by omega), sp_if (by rw [l]; omega), sp_b, e]
    by_cases h2 : x15 ≤ U.1 640 (o + t)
    · rw [if_pos h2, if_neg (by omega)]
    · rw [if_neg h2, if_pos (by omega)]
      try dsimp only
      rw [sp_ck (by omega), sp_if (by rw [l]; omega), sp_b, e]
theorem run268_45 {x5 : Int} {K15 : Int → Int → ev_St → Option (Unit × ev_St)} {k : Int} (ho : o ≤ 3520) (hN : N ≤ 320) (hX : lnX N X) (hT : ∀ t, t < N → U.1 627 (o + t) = X t) : ∀ (r q b j : Nat) (few : Int) (sl sb rows c : Int), r < q → N ≤ b + r → j + r ≤ 400 → cok b N c → (∀ t, b ≤ t → t < N → fcV o U t) → (0 ≤ sl ∧ sl ≤ 1000000 * (j : Int)) → (0 ≤ sb ∧ sb ≤ 1000000 * (j : Int)) → (0 ≤ rows ∧ rows ≤ (j : Int)) → ∃ q', jl_268_45 Q (o : Int) x5 K15 q k few (Int64.ofInt sl) (Int64.ofInt sb) rows c U = jb_268_45 Q (o : Int) x5 K15 (jl_268_45 Q (o : Int) x5 K15 q') k (chl X (fcR o U) r c (few, sl, sb, rows)).1 (Int64.ofInt (chl X (fcR o U) r c (few, sl, sb, rows)).2.1) (Int64.ofInt (chl X (fcR o U) r c (few, sl, sb, rows)).2.2.1) (chl X (fcR o U) r c (few, sl, sb, rows)).2.2.2 (-1) U
  | r, 0, b, j, few, sl, sb, rows, c, h, _, _, _, _, _, _, _ => by omega
  | 0, q + 1, b, j, few, sl, sb, rows, c, _, hb, _, hc, _, _, _, _ => by
    rcases hc with z | ⟨u, _, z1, z2⟩
    · rw [z]
      exact ⟨q, rfl⟩
    · omega
  | r + 1, q + 1, b, j, few, sl, sb, rows, c, hq, hb, hj, hc, hV, h1, h2, h3 => by
    rcases hc with z | ⟨u, z, z1, z2⟩
    · rw [z]
      exact ⟨q, rfl⟩
    · obtain ⟨v1, v2, v3, v4⟩ := hV u z1 z2
      unfold fcv at v1 v2 v4
      obtain ⟨q', e⟩ := run268_45 (x5 := x5) (K15 := K15) (k := k) ho hN hX hT r q (b + 1) (j + 1) (if few = -1 ∨ U.1 640 (o + u) < few then U.1 640 (o + u) else few) (sl + U.1 641 (o + u)) (sb + U.1 643 (o + u)) (rows + 1) (X u) (by omega) (by omega) (by omega) (cok_n hX z2 z1) (fun t a b => hV t (by omega) b) (by omega) (by omega) (by omega)
      refine ⟨q', ?_⟩
      have ec : chl X (fcR o U) (r + 1) c (few, sl, sb, rows) = chl X (fcR o U) r (X u) (if few = -1 ∨ U.1 640 (o + u) < few then U.1 640 (o + u) else few, sl + U.1 641 (o + u), sb + U.1 643 (o + u), rows + 1) := by
        rw [chl, if_neg (by omega), z, Int.toNat_natCast]
        rfl
      rw [ec, ← e]
      obtain ⟨_, l27, _⟩ := al_K.2
      obtain ⟨l40, l41, l42, l43⟩ := al_F
      have eo : ((o : Int) + (u : Int)).toNat = o + u := by omega
      show jb_268_45 Q _ _ _ _ _ _ _ _ _ _ U = _
      unfold jb_268_45
      rw [z, if_neg (by omega), st268_85 (by omega) (by omega)]
      try dsimp only
      rw [sp_ck (by omega), sp_if (by rw [l41]; omega), sp_b, eo, i6_i (by omega), sp_b, i6_add, sp_b, sp_ck (by omega), sp_if (by rw [l43]; omega), sp_b, eo, i6_i (by omega), sp_b, i6_add, sp_b, sp_ck (by omega), sp_ck (by omega), sp_if (by rw [l27]; omega), sp_b, eo, hT u z2]
/-- what the reference lays down for a node -/
def f640 (K few sl rows : Int) : Int := if K = 18 then mlC sl else if K = 0 then 1 else if (K = 8 ∨ K = 9 ∨ K = 10) ∨ (K = 13 ∧ 1 < rows) then few else 0
def fits (K sb rows : Int) : Int := if K = 18 then sb else if K < 7 then 1 else sb + 2 * (if rows ≤ 0 then 0 else rows - 1) + (if K = 8 then 2 else 0)
def f641 (rep lo l : Int) : Int := if rep = -1 then l else mlC (l * lo)
def f643 (rep lo hi its : Int) : Int := if rep = -1 then mlC its else if hi = -1 then mlC (its * (lo + 1) + 2) else mlC ((its + 1) * hi)
theorem st268_170 {JJ : Int → ev_St → Option β} {x18 K x34 : Int} {k : Nat} (hk : k < 4160) (hK : U.1 625 k = K) (h34 : x34 = if K = 8 ∨ K = 9 ∨ K = 10 then 1 else 0) : ev_jn JJ (fun K170 => ev_jn (fun  (s163 : ev_St) => K170 1 s163) fun K165 => if x34 ≠ 0 then (K165  U) else (ev_if ((0 : Int) ≤ (k:Int) ∧ (k:Int) < (ev_aln 625 : Int)) (ev_b (U.1 625 k) fun x165 => ev_jn (fun  (s175 : ev_St) => K170 0 s175) fun K169 => if x165 ≠ 13 then (K169  U) else (if x18 ≤ 1 then (K169  U) else (K165  U))))) = JJ (if (K = 8 ∨ K = 9 ∨ K = 10) ∨ (K = 13 ∧ 1 < x18) then 1 else 0) U := by
  obtain ⟨l25, _⟩ := al_K
  rw [sp_jn, sp_jn]
  by_cases h : K = 8 ∨ K = 9 ∨ K = 10
  · rw [h34, if_pos h, if_pos (by decide), if_pos (Or.inl h)]
  · rw [h34, if_neg h, if_neg (by decide), sp_if (by rw [l25]; omega), sp_b, hK, sp_jn]
    by_cases h2 : K = 13
    · rw [if_neg (by omega)]
      by_cases h3 : x18 ≤ 1
      · rw [if_pos h3, if_neg (by omega)]
      · rw [if_neg h3, if_pos (by omega)]
    · rw [if_pos h2, if_neg (by omega)]
theorem st268_223 {JJ : Int → Int → Nat → ev_St → Option β} {K own few sl rows : Int} {k : Nat} (hk : k < 4160) (hK : U.1 625 k = K) (hown : own = if (K = 8 ∨ K = 9 ∨ K = 10) ∨ (K = 13 ∧ 1 < rows) then 1 else 0) (hs : 0 ≤ sl ∧ sl < 4000000000) : ev_jn JJ (fun K223 => if K ≠ 18 then (ev_if ((0 : Int) ≤ (k:Int) ∧ (k:Int) < (ev_aln 625 : Int)) (ev_b (U.1 625 k) fun x149 => if x149 ≠ 0 then (if own = 0 then (K223 0 (k:Int) 640 U) else (K223 few (k:Int) 640 U)) else (K223 1 (k:Int) 640 U))) else (ev_bd (jm_266 Q (Int64.ofInt sl) U) fun x153 s152 => K223 x153 (k:Int) 640 s152)) = JJ (f640 K few sl rows) (k : Int) 640 U := by
  obtain ⟨l25, _⟩ := al_K
  unfold f640
  rw [sp_jn]
  by_cases h : K = 18
  · rw [if_neg (fun z => z h), sp_266 (by omega), sp_bd, if_pos h]
  · rw [if_pos h, if_neg h, sp_if (by rw [l25]; omega), sp_b, hK]
    by_cases h0 : K = 0
    · rw [if_neg (fun z => z h0), if_pos h0]
    · rw [if_pos h0, if_neg h0, hown]
      by_cases h2 : (K = 8 ∨ K = 9 ∨ K = 10) ∨ (K = 13 ∧ 1 < rows)
      · rw [if_pos h2, if_neg (by decide), if_pos h2]
      · rw [if_neg h2, if_pos rfl, if_neg h2]
theorem st268_298 {JJ : Int64 → ev_St → Option β} {K sb rows : Int} {k : Nat} (hk : k < 4160) (hK : U.1 625 k = K) (hr : rows ≤ 2000) : ev_jn JJ (fun K298 => if K ≠ 18 then (ev_if ((0 : Int) ≤ (k:Int) ∧ (k:Int) < (ev_aln 625 : Int)) (ev_b (U.1 625 k) fun x121 => if 7 ≤ x121 then (ev_jn (fun (x125 : Int) (y124 : Int64) (y123 : Int64) (s131 : ev_St) => ev_b (ev_i2l x125) fun y132 => ev_b (y124 * y132) fun y133 => ev_b (y123 + y133) fun y134 => ev_if ((0 : Int) ≤ (k:Int) ∧ (k:Int) < (ev_aln 625 : Int)) (ev_b (s131.1 625 k) fun x135 => ev_jn (fun (y137 : Int64) (y136 : Int64) (s143 : ev_St) => ev_b (y136 + y137) fun y144 => K298 y144 s143) fun K297 => if x135 ≠ 8 then (K297 ((Int64.ofNat ((0 : Fin 2) : Nat))) y134 s131) else (K297 ((2)) y134 s131))) fun K275 => if rows ≤ 0 then (K275 0 ((2)) (Int64.ofInt sb) U) else (ev_ck (rows - 1) fun x147 => K275 x147 ((2)) (Int64.ofInt sb) U)) else (K298 ((Int64.ofNat ((1 : Fin 2) : Nat))) U))) else (K298 (Int64.ofInt sb) U)) = JJ (Int64.ofInt (fits K sb rows)) U := by
  obtain ⟨l25, _⟩ := al_K
  unfold fits
  rw [sp_jn]
  by_cases h : K = 18
  · rw [if_neg (fun z => z h), if_pos h]
  · rw [if_pos h, if_neg h, sp_if (by rw [l25]; omega), sp_b, hK]
    by_cases h7 : K < 7
    · rw [if_neg (by omega), if_pos h7, i6_1]
    · rw [if_pos (by omega), if_neg h7, sp_jn]
      have key : ∀ z : Int, -2147483648 ≤ z ∧ z ≤ 2147483647 → (ev_b (ev_i2l z) fun y132 => ev_b ((2 : Int64) * y132) fun y133 => ev_b (Int64.ofInt sb + y133) fun y134 => ev_if ((0 : Int) ≤ (k : Int) ∧ (k : Int) < (ev_aln 625 : Int)) (ev_b (U.1 625 k) fun x135 => ev_jn (fun (y137 : Int64) (y136 : Int64) (s143 : ev_St) => ev_b (y136 + y137) fun y144 => JJ y144 s143) fun K297 => if x135 ≠ 8 then (K297 ((Int64.ofNat ((0 : Fin 2) : Nat))) y134 U) else (K297 ((2)) y134 U))) = JJ (Int64.ofInt (sb + 2 * z + (if K = 8 then 2 else 0))) U := fun z hz => by
        rw [sp_b, i6_i hz, sp_b, i6_2, i6_mul, sp_b, i6_add, sp_if (by rw [l25]; omega), sp_b, hK, sp_jn]
        by_cases h8 : K = 8
        · rw [if_neg (fun z => z h8), if_pos h8]
          try dsimp only
          rw [sp_b, i6_add]
        · rw [if_pos h8, if_neg h8]
          try dsimp only
          rw [sp_b, i6_0, i6_add]
      by_cases h0 : rows ≤ 0
      · rw [if_pos h0, if_pos h0]
        exact key 0 (by omega)
      · rw [if_neg h0, if_neg h0]
        by_cases hlo : -2147483648 ≤ rows - 1
        · rw [sp_ck (by omega)]
          exact key (rows - 1) (by omega)
        · omega
theorem st268_359 {JJ : Int64 → Int → Int → Nat → ev_St → Option β} {rep l lo : Int} {y60 : Int64} {k : Nat} (hk : k < 4160) (hl : U.1 640 k = l) (h0 : fcv l) (hlo : U.1 631 k = lo) (hr : rep = -1 ∨ (0 ≤ lo ∧ lo ≤ 20)) : ev_jn JJ (fun K359 => if rep ≠ (-1) then (ev_if ((0 : Int) ≤ (k:Int) ∧ (k:Int) < (ev_aln 640 : Int)) (ev_b (U.1 640 k) fun x112 => ev_b (ev_i2l x112) fun y113 => ev_if ((0 : Int) ≤ (k:Int) ∧ (k:Int) < (ev_aln 631 : Int)) (ev_b (U.1 631 k) fun x114 => ev_b (ev_i2l x114) fun y115 => ev_b (y113 * y115) fun y116 => ev_bd (jm_266 Q y116 U) fun x118 s117 => K359 y60 x118 (k:Int) 641 s117))) else (ev_if ((0 : Int) ≤ (k:Int) ∧ (k:Int) < (ev_aln 640 : Int)) (ev_b (U.1 640 k) fun x119 => K359 y60 x119 (k:Int) 641 U))) = JJ y60 (f641 rep lo l) (k : Int) 641 U := by
  obtain ⟨l25, l26, l27, l28, l29, l30, l31, l32, _⟩ := al_K
  obtain ⟨l40, _⟩ := al_F
  unfold f641
  unfold fcv at h0
  rw [sp_jn]
  by_cases h : rep = -1
  · rw [if_neg (fun z => z h), if_pos h, sp_if (by rw [l40]; omega), sp_b, hl]
  · have hb : 0 ≤ l * lo ∧ l * lo ≤ 1000000 * 20 := ⟨Int.mul_nonneg h0.1 (by omega), Int.mul_le_mul h0.2 (by omega) (by omega) (by omega)⟩
    rw [if_pos h, if_neg h, sp_if (by rw [l40]; omega), sp_b, hl, i6_i (by omega), sp_b, sp_if (by rw [l31]; omega), sp_b, hlo, i6_i (by omega), sp_b, i6_mul, sp_b, sp_266 (by omega), sp_bd]
theorem st268_437 {JJ : Int → Int → Nat → ev_St → Option β} {rep lo hi its : Int} {k : Nat} (hk : k < 4160) (h2 : U.1 642 k = mlC its) (hits : 0 ≤ its ∧ its ≤ 1000000000) (hlo : U.1 631 k = lo) (hhi : U.1 632 k = hi) (hr : rep = -1 ∨ ((0 ≤ lo ∧ lo ≤ 20) ∧ (-1 ≤ hi ∧ hi ≤ 20))) : ev_jn JJ (fun K437 => if rep ≠ (-1) then (ev_if ((0 : Int) ≤ (k:Int) ∧ (k:Int) < (ev_aln 632 : Int)) (ev_b (U.1 632 k) fun x95 => if x95 = (-1) then (ev_if ((0 : Int) ≤ (k:Int) ∧ (k:Int) < (ev_aln 631 : Int)) (ev_b (U.1 631 k) fun x97 => ev_b (ev_i2l x97) fun y98 => ev_b (y98 + (Int64.ofNat ((1 : Fin 2) : Nat))) fun y99 => ev_b ((Int64.ofInt its) * y99) fun y100 => ev_b (y100 + (2)) fun y101 => ev_bd (jm_266 Q y101 U) fun x103 s102 => K437 x103 (k:Int) 643 s102)) else (ev_b ((Int64.ofInt its) + (Int64.ofNat ((1 : Fin 2) : Nat))) fun y104 => ev_if ((0 : Int) ≤ (k:Int) ∧ (k:Int) < (ev_aln 632 : Int)) (ev_b (U.1 632 k) fun x105 => ev_b (ev_i2l x105) fun y106 => ev_b (y104 * y106) fun y107 => ev_bd (jm_266 Q y107 U) fun x109 s108 => K437 x109 (k:Int) 643 s108)))) else (ev_if ((0 : Int) ≤ (k:Int) ∧ (k:Int) < (ev_aln 642 : Int)) (ev_b (U.1 642 k) fun x110 => K437 x110 (k:Int) 643 U))) = JJ (f643 rep lo hi its) (k : Int) 643 U := by
  obtain ⟨l25, l26, l27, l28, l29, l30, l31, l32, _⟩ := al_K
  obtain ⟨l40, l41, l42, l43⟩ := al_F
  unfold f643
  rw [sp_jn]
  by_cases h : rep = -1
  · rw [if_neg (fun z => z h), if_pos h, sp_if (by rw [l42]; omega), sp_b, h2]
  · rw [if_pos h, if_neg h, sp_if (by rw [l32]; omega), sp_b, hhi]
    by_cases hh : hi = -1
    · have hb : 0 ≤ its * (lo + 1) ∧ its * (lo + 1) ≤ 1000000000 * 21 := ⟨Int.mul_nonneg hits.1 (by omega), Int.mul_le_mul hits.2 (by omega) (by omega) (by omega)⟩
      rw [if_pos hh, if_pos hh, sp_if (by rw [l31]; omega), sp_b, hlo, i6_i (by omega), sp_b, i6_1, i6_add, sp_b, i6_mul, sp_b, i6_2, i6_add, sp_b, sp_266 (by omega), sp_bd]
    · have hb : 0 ≤ (its + 1) * hi ∧ (its + 1) * hi ≤ 1000000001 * 20 := ⟨Int.mul_nonneg (by omega) (by omega), Int.mul_le_mul (by omega) (by omega) (by omega) (by omega)⟩
      rw [if_neg hh, if_neg hh, i6_1, i6_add, sp_b, sp_if (by rw [l32]; omega), sp_b, i6_i (by omega), sp_b, i6_mul, sp_b, sp_266 (by omega), sp_bd]
theorem sp_267 {K : Int} : jm_267 Q K U = some (if K = 8 ∨ K = 9 ∨ K = 10 then 1 else 0, U) := by
  unfold jm_267
  by_cases a : K = 8
  · rw [if_pos a, if_pos (by omega)]
  · by_cases b : K = 9
    · rw [if_neg a, if_pos b, if_pos (by omega)]
    · by_cases c : K = 10
      · rw [if_neg a, if_neg b, if_neg (by omega), if_pos (by omega)]
      · rw [if_neg a, if_neg b, if_pos c, if_neg (by omega)]
/-- a node's four numbers are laid down -/
def lay4 (U : ev_St) (k : Nat) (K few sl sb rows rep lo hi : Int) : ev_St := ev_pI (ev_pI (ev_pI (ev_pI U 640 k (f640 K few sl rows)) 642 k (mlC (fits K sb rows))) 641 k (f641 rep lo (f640 K few sl rows))) 643 k (f643 rep lo hi (fits K sb rows))
theorem run268_f {x5 : Int} {K15 : Int → Int → ev_St → Option (Unit × ev_St)} {K45 : Int → Int → Int64 → Int64 → Int → Int → ev_St → Option (Unit × ev_St)} {k : Nat} {K few sl sb rows rep lo hi : Int} (hk : k < 4160) (hK : U.1 625 k = K) (hrep : U.1 630 k = rep) (hlo : U.1 631 k = lo) (hhi : U.1 632 k = hi) (hr : rep = -1 ∨ ((0 ≤ lo ∧ lo ≤ 20) ∧ (-1 ≤ hi ∧ hi ≤ 20))) (h1 : 0 ≤ sl ∧ sl ≤ 400000000) (h2 : 0 ≤ sb ∧ sb ≤ 400000000) (h3 : 0 ≤ rows ∧ rows ≤ 400) (hv : fcv (f640 K few sl rows)) (h5 : -1 ≤ x5 - 1 ∧ x5 ≤ 400) : jb_268_45 Q (o : Int) x5 K15 K45 (k : Int) few (Int64.ofInt sl) (Int64.ofInt sb) rows (-1) U = K15 (o : Int) (x5 - 1) (lay4 U k K few sl sb rows rep lo hi) := by
  obtain ⟨l25, l26, l27, l28, l29, l30, l31, l32, _⟩ := al_K
  obtain ⟨l40, l41, l42, l43⟩ := al_F
  have hits : 0 ≤ fits K sb rows ∧ fits K sb rows ≤ 1000000000 := by
    unfold fits
    (repeat' split) <;> omega
  subst hK hrep hlo hhi
  unfold jb_268_45
  rw [if_pos rfl, sp_if (by rw [l25]; omega), sp_b, Int.toNat_natCast, sp_267, sp_bd, st268_170 hk rfl rfl]
  try dsimp only
  rw [sp_if (by rw [l25]; omega), sp_b, st268_223 (rows := rows) hk rfl rfl (by omega)]
  try dsimp only
  rw [sp_if (by rw [l40]; omega), sp_b, Int.toNat_natCast]
  obtain ⟨V1, hV1⟩ : ∃ V1, V1 = ev_pI U 640 k (f640 (U.1 625 k) few sl rows) := ⟨_, rfl⟩
  have e1 : ∀ c g, c ≠ 640 → V1.1 c g = U.1 c g := fun c g h => by rw [hV1, rd_nk h]
  have e1' : V1.1 640 k = f640 (U.1 625 k) few sl rows := by rw [hV1, rd_eq]
  rw [← hV1, sp_if (by rw [l25]; omega), sp_b, st268_298 hk rfl (by omega)]
  try dsimp only
  rw [e1 625 k (by omega), sp_266 (by omega), sp_bd, sp_if (by rw [l42]; omega), sp_b]
  obtain ⟨V2, hV2⟩ : ∃ V2, V2 = ev_pI V1 642 k (mlC (fits (U.1 625 k) sb rows)) := ⟨_, rfl⟩
  have e2 : ∀ c g, c ≠ 640 → c ≠ 642 → V2.1 c g = U.1 c g := fun c g h h' => by rw [hV2, rd_nk h', e1 c g h]
  have e2' : V2.1 640 k = f640 (U.1 625 k) few sl rows := by rw [hV2, rd_nk (by omega), e1']
  rw [← hV2, sp_if (by rw [l30]; omega), sp_b, st268_359 (l := f640 (U.1 625 k) few sl rows) (lo := U.1 631 k) hk e2' hv (e2 _ _ (by omega) (by omega)) (by rw [e2 _ _ (by omega) (by omega)]; omega)]
  try dsimp only
  rw [e2 630 k (by omega) (by omega), sp_if (by rw [l41]; omega), sp_b, Int.toNat_natCast]
  obtain ⟨V3, hV3⟩ : ∃ V3, V3 = ev_pI V2 641 k (f641 (U.1 630 k) (U.1 631 k) (f640 (U.1 625 k) few sl rows)) := ⟨_, rfl⟩
  have e3 : ∀ c g, c ≠ 640 → c ≠ 642 → c ≠ 641 → V3.1 c g = U.1 c g := fun c g h h' h'' => by rw [hV3, rd_nk h'', e2 c g h h']
  have e3' : V3.1 642 k = mlC (fits (U.1 625 k) sb rows) := by rw [hV3, rd_nk (by omega), hV2, rd_eq]
  rw [← hV3, sp_if (by rw [l30]; omega), sp_b, st268_437 (lo := U.1 631 k) (hi := U.1 632 k) hk e3' hits (e3 _ _ (by omega) (by omega) (by omega)) (e3 _ _ (by omega) (by omega) (by omega)) (by rw [e3 _ _ (by omega) (by omega) (by omega)]; exact hr)]
  try dsimp only
  rw [e3 630 k (by omega) (by omega) (by omega), sp_if (by rw [l43]; omega), sp_b, Int.toNat_natCast, sp_ck (by omega), hV3, hV2, hV1]
  rfl
end FACTR
