/-! RUNAWAY: the call -/
section OPYB
variable {Q k p N M m n g u s L j : Nat} {xs : Nat → Int32} {φ ψ own up : Nat → Nat} {S S0 S2 T T0 U V : ev_St} {W : Nat → FV} {l h : Int64} {a c : Int}
theorem cs_SV (hv : SV l h) (hc : cs l h c = 1) : sp_sign c = 1 := by
  unfold cs at hc
  by_cases y : 0 ≤ c ∧ c < 128 ∧ (if c < 64 then lb l c.toNat else lb h (c - 64).toNat) = true
  · obtain ⟨y1, y2, y3⟩ := y
    unfold sp_sign
    by_cases z : c < 64
    · rw [if_pos z] at y3
      have := hv.1 c.toNat (by omega) y3
      exact if_pos (by omega)
    · rw [if_neg z] at y3
      have := hv.2 (c - 64).toNat (by omega) y3
      exact if_pos (by omega)
  · rw [if_neg y] at hc
    cases hc
/-- just one sign, inner, away: signs alone -/
theorem JIA_s (hF : FINX k N M φ ψ own up S0 (sft p T0)) (hw : WQ k N M φ ψ S0 (sft p T0) W M) (hq : ∀ m, m < N → FQ (320 * p) T0 m) : ∀ n m, m < N → N ≤ m + n → ((W (φ m)).2.2.2.1 c ∨ (W (φ m)).2.2.2.2.1 c ∨ (W (φ m)).2.2.2.2.2 c → sp_sign c = 1) := fun n => by
  have h := TREE_of hF
  induction n with
  | zero => intro m h1 h2; omega
  | succ n ih =>
    intro m hm hn
    obtain ⟨kr, kk⟩ := FINX_K hF hm
    obtain ⟨a1, a2, a3, a4, a5, a6⟩ := (hw.2 m hm).1 (h.1 m hm).1
    have lkX := Kid_X h (m := m)
    have lkC := Kid_C h hm
    have kid : ∀ t, Kid N up (sft p T0) m t → (((W (φ t)).2.2.2.1 c ∨ (W (φ t)).2.2.2.2.1 c ∨ (W (φ t)).2.2.2.2.2 c → sp_sign c = 1) ∧ ((W (ψ t)).2.2.2.1 c ∨ (W (ψ t)).2.2.2.2.1 c ∨ (W (ψ t)).2.2.2.2.2 c → sp_sign c = 1)) := fun t ht => by
      have lt := UP_lt hF ht.1 ht.2.1 ht.2.2.1
      have q := ih t ht.1 (by omega)
      obtain ⟨i1, i2, i3⟩ := ITM (a := c) hF hw hq ht.1
      refine ⟨q, fun z => ?_⟩
      rcases z with z | z | z
      · exact q (Or.inl (i1.mp z).1)
      · rcases (i2.mp z).2.2 with y | y
        · exact q (Or.inr (Or.inl y))
        · exact q (Or.inl y.2)
      · rcases (i3.mp z).2 with y | y
        · exact q (Or.inr (Or.inr y))
        · exact q (Or.inr (Or.inl y.2))
    by_cases z18 : tK (sft p T0) m = 18
    · rw [a5 z18]
      exact chl_mem lkX (fun (v : FV) (_ : Unit) => (v.2.2.2.1 c ∨ v.2.2.2.2.1 c ∨ v.2.2.2.2.2 c → sp_sign c = 1)) (F := fun v t => rowF v (W (ψ t))) (G := fun (x : Unit) _ => x) (fun v _ t ht r => by
        intro z
        have z' : ((((W (ψ t)).1 = 0 ∧ v.2.2.2.1 c) ∨ (v.1 = 0 ∧ (W (ψ t)).2.2.2.1 c)) ∨ (((W (ψ t)).1 = 0 ∧ v.2.2.2.2.1 c) ∨ (v.1 = 0 ∧ (W (ψ t)).2.2.2.2.1 c)) ∨ (v.2.2.2.2.2 c ∨ (W (ψ t)).2.2.2.2.2 c)) := z
        have q := (kid t ht).2
        rcases z' with (y | y) | (y | y) | (y | y)
        · exact r (Or.inl y.2)
        · exact q (Or.inl y.2)
        · exact r (Or.inr (Or.inl y.2))
        · exact q (Or.inr (Or.inl y.2))
        · exact r (Or.inr (Or.inr y))
        · exact q (Or.inr (Or.inr y))) 320 0 _ zFV () lkC (fun y => by rcases y with y | y | y <;> exact y.elim)
    · by_cases z8 : 8 ≤ tK (sft p T0) m ∧ tK (sft p T0) m ≤ 13
      · rw [a6 z8]
        exact chl_mem lkX (fun (v : Int × FV) (_ : Unit) => (v.2.2.2.2.1 c ∨ v.2.2.2.2.2.1 c ∨ v.2.2.2.2.2.2 c → sp_sign c = 1)) (F := fun v t => partF (S0.1 (k + 1) (φ m)) v (W (φ t))) (G := fun (x : Unit) _ => x) (fun v _ t ht r => by
          intro z
          have z' : ((v.2.2.2.2.1 c ∨ (S0.1 (k + 1) (φ m) < 20 ∧ (W (φ t)).2.2.2.1 c)) ∨ (v.2.2.2.2.2.1 c ∨ (S0.1 (k + 1) (φ m) < 19 ∧ (W (φ t)).2.2.2.2.1 c)) ∨ (v.2.2.2.2.2.2 c ∨ (S0.1 (k + 1) (φ m) < 19 ∧ (W (φ t)).2.2.2.2.2 c))) := z
          have q := (kid t ht).1
          rcases z' with (y | y) | (y | y) | (y | y)
          · exact r (Or.inl y)
          · exact q (Or.inl y.2)
          · exact r (Or.inr (Or.inl y))
          · exact q (Or.inr (Or.inl y.2))
          · exact r (Or.inr (Or.inr y))
          · exact q (Or.inr (Or.inr y.2))) 320 0 _ (0, 1000000, if S0.1 (k + 1) (φ m) = 18 then 2 else 0, noP, noP, noP, noP) () lkC (fun y => by rcases y with y | y | y <;> exact False.elim y)
      · by_cases z0 : tK (sft p T0) m = 0
        · rw [a1 z0]
          have m0 : m ≠ 0 := fun e => by
            subst e
            rcases kk with ⟨_, y, _⟩ | ⟨y, _⟩
            · omega
            · exact y rfl
          have sv := ((hF.1.1.1 m hm m0).2.1.2.1 z0).2
          intro z
          rcases z with z | z | z
          · exact cs_SV sv z
          · exact False.elim z
          · exact False.elim z
        · have no : ∀ w : FV, w = (0, 1, noP, noP, noP, noP) ∨ w = (0, 0, allP, noP, noP, noP) ∨ w = zFV → (w.2.2.2.1 c ∨ w.2.2.2.2.1 c ∨ w.2.2.2.2.2 c → sp_sign c = 1) := fun w e z => by
            rcases e with e | e | e <;> subst e <;> rcases z with z | z | z <;> exact False.elim z
          by_cases z7 : tK (sft p T0) m < 7
          · exact no _ (Or.inl (a2 (by omega)))
          · by_cases y : tK (sft p T0) m = 7 ∨ tK (sft p T0) m = 14
            · exact no _ (Or.inr (Or.inl (a3 y)))
            · exact no _ (Or.inr (Or.inr (a4 (by omega))))
theorem lowC_sk : ∀ (i n : Nat) (x : Int), (∀ c, x ≤ c → c < x + i → cs l h c ≠ 1) → lowC l h (i + n) x = lowC l h n (x + i) := fun i => by
  induction i with
  | zero =>
    intro n x _
    rw [Nat.zero_add, show x + ((0 : Nat) : Int) = x from by omega]
  | succ i ih =>
    intro n x hx
    rw [show i + 1 + n = (i + n) + 1 from by omega]
    show (if cs l h x = 1 then x else lowC l h (i + n) (x + 1)) = _
    rw [if_neg (hx x (by omega) (by omega)), ih n (x + 1) (fun c c1 c2 => hx c (by omega) (by omega)), show x + 1 + (i : Int) = x + ((i + 1 : Nat) : Int) from by omega]
theorem run287i {K75 : ev_St → Option (Int × ev_St)} (hp : p < 12) (hQ : 1000 ≤ Q) (hF : FINX k N M φ ψ own up S0 (sft p T0)) (ha : AG0 p T0 U) (hw : UPw N up U) (hj : ∀ t, t < N → U.1 658 t = jP φ W a t) : ∀ (r q m : Nat), r < q → m + r = N → ((∃ m', m ≤ m' ∧ m' < N ∧ stN φ p T0 W a m' ∧ RUNf up p T0 320 True m') → jl_287_48 Q (p : Int) a K75 q (m : Int) U = some (a, U)) ∧ ((¬ ∃ m', m ≤ m' ∧ m' < N ∧ stN φ p T0 W a m' ∧ RUNf up p T0 320 True m') → jl_287_48 Q (p : Int) a K75 q (m : Int) U = K75 U) := fun r => by
  have hN : N ≤ 320 := hF.2.1.2.2.2
  have l35 : ev_aln 635 = 13 := al_K.2.2.2.2.2.2.2.2.2.2.1
  have n35 : U.1 635 p = (N : Int) := by
    have q := hF.2.1.2.2.1
    rw [sft_5 (Or.inl rfl)] at q
    rw [ha.2.2]
    exact q
  induction r with
  | zero =>
    intro q m hq hm
    obtain ⟨q, rfl⟩ : ∃ r, q = r + 1 := ⟨q - 1, by omega⟩
    refine ⟨fun ⟨m', h1, h2, _⟩ => absurd h2 (by omega), fun _ => ?_⟩
    show jb_287_48 Q _ _ _ _ _ U = _
    unfold jb_287_48
    rw [sp_if (by rw [l35]; omega), sp_b, Int.toNat_natCast, n35, if_pos (by omega)]
  | succ r ih =>
    intro q m hq hm
    obtain ⟨q, rfl⟩ : ∃ r, q = r + 1 := ⟨q - 1, by omega⟩
    obtain ⟨v, r1, r2⟩ := sp_285 (Q := Q) (m := m) hp hQ hF ha hw hj (by omega)
    have hd : jl_287_48 Q (p : Int) a K75 (q + 1) (m : Int) U = if v = 0 then jl_287_48 Q (p : Int) a K75 q ((m + 1 : Nat) : Int) U else some (a, U) := by
      show jb_287_48 Q _ _ _ _ _ U = _
      unfold jb_287_48
      rw [sp_if (by rw [l35]; omega), sp_b, Int.toNat_natCast, n35, if_neg (by omega), r1, sp_bd, sp_ck (by omega), show (m : Int) + 1 = ((m + 1 : Nat) : Int) from by omega]
    obtain ⟨i1, i2⟩ := ih q (m + 1) (by omega) (by omega)
    rw [hd]
    rcases r2 with ⟨y, y2⟩ | ⟨y, y2⟩
    · rw [if_neg (by omega)]
      exact ⟨fun _ => rfl, fun z => absurd ⟨m, Nat.le_refl _, by omega, y2⟩ z⟩
    · rw [if_pos y]
      refine ⟨fun ⟨m', h1, h2, h3⟩ => i1 ⟨m', ?_, h2, h3⟩, fun z => i2 (fun ⟨m', h1, h2, h3⟩ => z ⟨m', by omega, h2, h3⟩)⟩
      by_cases e : m' = m
      · rw [e] at h3
        exact absurd h3 y2
      · omega
theorem run287 (hp : p < 12) (hQ : 1000 ≤ Q) (hF : FINX k N M φ ψ own up S0 (sft p T0)) (hw : WQ k N M φ ψ S0 (sft p T0) W M) (hfq : ∀ m, m < N → FQ (320 * p) T0 m) (hl : ∀ c, cs l h c = 1 ↔ (W (ψ 0)).2.2.2.2.2 c) : ∀ (r q x : Nat) (U : ev_St), r < q → x + r = 127 → 10 ≤ x → AG0 p T0 U → UPw N up U → ∃ V, jl_287_27 Q (p : Int) q (x : Int) U = some (lowC l h (r + 1) (x : Int), V) ∧ (∀ c i, c ≠ 658 → V.1 c i = U.1 c i) ∧ V.2 = U.2 := fun r => by
  have hN : N ≤ 320 := hF.2.1.2.2.2
  have hN0 : 0 < N := hF.1.1.2.2.1
  have ψ0 : ψ 0 = φ 0 := hF.1.1.2.1.2.1
  have l35 : ev_aln 635 = 13 := al_K.2.2.2.2.2.2.2.2.2.2.1
  have sg : ∀ c, cs l h c = 1 → sp_sign c = 1 := fun c hc => by
    have q := (hl c).mp hc
    rw [ψ0] at q
    exact JIA_s hF hw hfq N 0 hN0 (by omega) (Or.inr (Or.inr q))
  induction r with
  | zero =>
    intro q x U hq hx h10 hU hP
    obtain ⟨q, rfl⟩ : ∃ r, q = r + 1 := ⟨q - 1, by omega⟩
    obtain rfl : x = 127 := by omega
    refine ⟨U, ?_, fun _ _ _ => rfl, rfl⟩
    have e : lowC l h 1 ((127 : Nat) : Int) = -1 := by
      unfold lowC
      rw [if_neg (fun z => by have := sg _ z; revert this; decide)]
      rfl
    rw [e]
    show jb_287_27 Q _ _ _ U = _
    unfold jb_287_27
    rw [if_pos (by omega)]
  | succ r ih =>
    intro q x U hq hx h10 hU hP
    obtain ⟨q, rfl⟩ : ∃ r, q = r + 1 := ⟨q - 1, by omega⟩
    have hd : ∀ U : ev_St, jl_287_27 Q (p : Int) (q + 1) (x : Int) U = jb_287_27 Q (p : Int) (jl_287_27 Q (p : Int) q) (x : Int) U := fun _ => rfl
    rw [hd]
    unfold jb_287_27
    rw [if_neg (by omega), sp_223, sp_bd, sp_jn]
    unfold lowC
    rcases @if01 ((x : Int) = 10 ∨ (32 ≤ (x : Int) ∧ (x : Int) ≤ 126)) _ with y | y
    · have ys : sp_sign (x : Int) = 1 := y
      rw [ys, if_neg (by decide)]
      obtain ⟨V1, r1, r2, r3, r4⟩ := run280 (Q := Q) (a := (x : Int)) hp hN (by omega) ys (CHN_of hF) (JQ_of hF hw hfq ys) N Q U (by omega) (Nat.le_refl _) hU (fun t t1 t2 => absurd t2 (by omega))
      have n35 : U.1 635 p = (N : Int) := by
        have q := hF.2.1.2.2.1
        rw [sft_5 (Or.inl rfl)] at q
        rw [hU.2.2]
        exact q
      have j280 : jm_280 Q (p : Int) (x : Int) U = some ((), V1) := by
        unfold jm_280
        rw [sp_ck (by omega), sp_if (by rw [l35]; omega), sp_b, Int.toNat_natCast, n35, sp_ck (by omega)]
        exact r1
      have hU1 : AG0 p T0 V1 := AG0_c hU (fun c i y _ => r3 c i (by omega)) (fun c i _ => by rw [r4])
      have hP1 : UPw N up V1 := ⟨fun t t1 t2 => by rw [r3 _ _ (by decide)]; exact hP.1 t t1 t2, by rw [r3 _ _ (by decide)]; exact hP.2⟩
      rw [j280, sp_bd]
      obtain ⟨f1, f2⟩ := run287i (Q := Q) (a := (x : Int)) (K75 := fun (s19 : ev_St) => ev_ck ((x : Int) + 1) fun x20 => jl_287_27 Q (p : Int) q x20 s19) hp hQ hF hU1 hP1 r2 N Q 0 (by omega) (by omega)
      have eq := RUN_eq (a := (x : Int)) hF hw hfq
      by_cases z : (W (ψ 0)).2.2.2.2.2 (x : Int)
      · rw [if_pos ((hl _).mpr z)]
        obtain ⟨m, m1, m2⟩ := eq.mpr z
        exact ⟨V1, f1 ⟨m, Nat.zero_le _, m1, m2⟩, r3, r4⟩
      · rw [if_neg (fun w => z ((hl _).mp w))]
        have nf := f2 (fun ⟨m, _, m1, m2⟩ => z (eq.mp ⟨m, m1, m2⟩))
        obtain ⟨V, s1, s2, s3⟩ := ih q (x + 1) V1 (by omega) (by omega) (by omega) hU1 hP1
        refine ⟨V, nf.trans ?_, fun c i y => by rw [s2 c i y, r3 c i y], by rw [s3, r4]⟩
        show ev_ck ((x : Int) + 1) (fun x20 => jl_287_27 Q (p : Int) q x20 V1) = _
        rw [sp_ck (by omega), show (x : Int) + 1 = ((x + 1 : Nat) : Int) from by omega]
        exact s1
    · have ys : sp_sign (x : Int) = 0 := y
      have nc : ¬ cs l h (x : Int) = 1 := fun z => by have := sg _ z; omega
      rw [ys, if_pos rfl, if_neg nc]
      obtain ⟨V, s1, s2, s3⟩ := ih q (x + 1) U (by omega) (by omega) (by omega) hU hP
      refine ⟨V, ?_, s2, s3⟩
      try dsimp only
      rw [sp_ck (by omega), show (x : Int) + 1 = ((x + 1 : Nat) : Int) from by omega]
      exact s1
theorem op_9 (hQ : 1000000 ≤ Q) (hK : sp_PT S) (hL : L ≤ 3072) (hj : j + 6 ≤ L) : ∃ S2, (∀ K, ja_656 Q L xs (j : Int) K S = K S2) ∧ sp_F sp_W7 S S2 := by
  obtain ⟨a, ha⟩ : ∃ a, a = (xs (Int.toNat ((j : Int) + 1))).toInt := ⟨_, rfl⟩
  have wc : ∀ c g, sp_Wc c g → sp_W7 c g := fun c g y => Or.inl y
  by_cases h : 0 ≤ a ∧ a < S.1 0 5
  · obtain ⟨p, hp⟩ : ∃ p : Nat, a = (p : Int) := ⟨a.toNat, by omega⟩
    have k12 := hK.1.2.1
    have hp12 : p < 12 := by omega
    obtain ⟨S0, T0, T1, N, M, φ, ψ, own, up, W, ⟨hF, hq, hw, hn, _, _⟩, agc, agr, _⟩ := hK.2 p (by omega)
    have hN : N ≤ 320 := hF.2.1.2.2.2
    have hN0 : 0 < N := hF.1.1.2.2.1
    have ψ0 : ψ 0 = φ 0 := hF.1.1.2.1.2.1
    obtain ⟨k, hk⟩ : ∃ k, k = 313 + 20 * p := ⟨_, rfl⟩
    rw [← hk] at hF hw hn agc
    obtain ⟨_, _, l, hi, n1, n2⟩ := hn
    have hl : ∀ c, cs l hi c = 1 ↔ (W (ψ 0)).2.2.2.2.2 c := fun c => by
      rw [ψ0, ← n1]
    have e19 : S.1 k 19 = lowC l hi 128 0 := by rw [(agc k 19 (by omega) (by omega)).1, n2]
    have sk : lowC l hi 128 0 = lowC l hi 118 ((10 : Nat) : Int) := by
      have q := lowC_sk (l := l) (h := hi) 10 118 0 (fun c c1 c2 z => by
        have q := (hl c).mp z
        rw [ψ0] at q
        have s := JIA_s hF hw hq N 0 hN0 (by omega) (Or.inr (Or.inr q))
        unfold sp_sign at s
        rw [if_neg (by omega)] at s
        cases s)
      rw [show (10 + 118 : Nat) = 128 from rfl, show (0 : Int) + ((10 : Nat) : Int) = ((10 : Nat) : Int) from by omega] at q
      exact q
    obtain ⟨v, hv⟩ : ∃ v, v = lowC l hi 128 0 := ⟨_, rfl⟩
    have c1 : jm_175 Q a S = some (.inl v, S) := by
      unfold jm_175
      rw [(sp_200 hK).1 h, sp_bd, if_neg (by omega), hp, Int.toNat_natCast, ← hk, show k + 1 - 1 = k from rfl, sp_b, e19, ← hv]
    obtain ⟨U, hU⟩ : ∃ U, U = ev_pI (ev_pL S 723 0 (ev_i2l v)) 621 0 0 := ⟨_, rfl⟩
    have ag : AG0 p T0 U := by
      refine AG0_c (AG0_of agr) (fun c i y1 y2 => ?_) (fun c i y1 => ?_)
      · rw [hU, sp_pI1, if_neg y2]
        rfl
      · rw [hU, sp_pI2, sp_pL2, if_neg (by omega)]
    obtain ⟨U1, r1, r2, r3, r4, r5⟩ := sp_283 (Q := Q) hp12 (by omega) hF ag
    have ag1 : AG0 p T0 U1 := AG0_c ag (fun c i y _ => r4 c i (by omega)) (fun c i _ => by rw [r5])
    obtain ⟨V, s1, s2, s3⟩ := run287 (Q := Q) hp12 (by omega) hF hw hq hl 117 Q 10 U1 (by omega) rfl (by omega) ag1 ⟨r2, r3⟩
    have j287 : jm_287 Q a (ev_pL S 723 0 (ev_i2l v)) = some (v, V) := by
      unfold jm_287
      rw [sp_b, ← hU, sp_273y (by rw [hU]; exact PT_0 (PT_L hK)) (by rw [hU, rd_nk (by decide)]; exact h), sp_bd, if_pos (by decide), hp, r1, sp_bd, hv, sk]
      exact s1
    have fr : ∀ c i, ¬ (658 ≤ c ∧ c ≤ 659) → V.1 c i = U.1 c i := fun c i y => by rw [s2 c i (by omega), r4 c i (by omega)]
    have fr2 : V.2 = U.2 := by rw [s3, r5]
    refine ⟨V, fun K => la_9 (c := 0) (b := v) hL hj (by rw [← ha]; exact lw_9_ok a c1) (by rw [← ha]; exact j287) ?_ (fun _ => ?_), fun c g y => ?_, fun c g y => ?_, ?_, ?_, ?_, ?_, ?_⟩
    · rw [fr _ _ (by omega), hU, rd_eq]
    · rw [fr2, hU]
      exact rd_L
    · unfold sp_W7 at y
      rw [fr c g (by omega), hU, sp_pI1, if_neg (by omega)]
      rfl
    · rw [fr2, hU, sp_pI2, sp_pL2, if_neg (fun z => y z.1)]
    · rw [fr2, hU]
      rfl
    · rw [fr2, hU]
      rfl
    · rw [fr2, hU]
      rfl
    · rw [fr2, hU]
      exact Nat.le_succ _
    · rw [fr2, hU]
      exact Nat.le_add_right _ _
  · refine ⟨_, fun K => la_9 (S2 := ev_pI (ev_pI (ev_tick S) 621 0 0) 621 0 1) (c := 1) (b := 0) hL hj (by
      rw [← ha]
      refine lw_9_x0 a ?_
      unfold jm_175
      rw [(sp_200 hK).2 h, sp_bd, if_pos rfl]) (by
      rw [← ha]
      unfold jm_287
      rw [sp_b, sp_273n (PT_0 (PT_t hK)) (by rw [rd_nk (by decide)]; exact h), sp_bd, if_neg (fun z => z rfl)]
      rfl) rd_eq (fun q => by cases q), sp_F_w sp_F_no2 wc⟩
end OPYB
