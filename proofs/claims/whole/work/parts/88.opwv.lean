/-! PROGRAMS: what is never written -/
section PROG5
variable {Q k g b e N M m t : Nat} {X : Nat → Int} {f φ ψ own up : Nat → Nat} {Mb : Nat → Prop} {S T U V W : ev_St}
theorem lst_next (hX : mbX N X Mb) {s u : Nat} (hs : Mb u) (hu : X s = (u : Int)) : ∀ (n b0 : Nat) (c : Int), N ≤ b0 + n → mbc Mb b0 c → s ∈ lstC X n c → u ∈ lstC X n c
  | 0, b0, c, _, _, h => by cases h
  | n + 1, b0, c, hN, hc, h => by
    rcases hc with z | ⟨v, z, z1, z2⟩
    · rw [lstC, if_pos z] at h
      cases h
    · have e : lstC X (n + 1) c = v :: lstC X n (X v) := by rw [lstC, if_neg (by omega), z, Int.toNat_natCast]
      rw [e] at h ⊢
      rcases List.mem_cons.mp h with y | y
      · rw [y] at hu
        have hv := (hX v z2).2
        have uv : v < u := by
          rcases hv with w | ⟨u', w, w1, _⟩
          · omega
          · omega
        have uN := (hX u hs).1
        cases n with
        | zero => omega
        | succ n =>
          refine List.mem_cons_of_mem _ ?_
          rw [lstC, hu, if_neg (by omega), Int.toNat_natCast]
          exact List.mem_cons_self
      · exact List.mem_cons_of_mem _ (lst_next hX hs hu n (b0 + 1) (X v) (by omega) (mbc_n hX z2 z1) y)
theorem lst_mb (hX : mbX N X Mb) : ∀ (n b0 : Nat) (c : Int), mbc Mb b0 c → ∀ s, s ∈ lstC X n c → Mb s
  | 0, b0, c, _, s, h => by cases h
  | n + 1, b0, c, hc, s, h => by
    rcases hc with z | ⟨v, z, z1, z2⟩
    · rw [lstC, if_pos z] at h
      cases h
    · have e : lstC X (n + 1) c = v :: lstC X n (X v) := by rw [lstC, if_neg (by omega), z, Int.toNat_natCast]
      rw [e] at h
      rcases List.mem_cons.mp h with y | y
      · rw [y]
        exact z2
      · exact lst_mb hX n (b0 + 1) (X v) (mbc_n hX z2 z1) s y
/-- all children stand in the chain -/
theorem kid_in (hF : FINX k N M φ ψ own up S T) (hm : m < N) : ∀ n t, t ≤ n → Kid N up T m t → t ∈ lstC (tX T) 320 (tC T m) := fun n => by
  have h := TREE_of hF
  have hN : N ≤ 320 := hF.2.1.2.2.2
  have hl := hF.1.2.1.1.2.2.2
  induction n with
  | zero => intro t h1 h2; exact absurd (Nat.le_zero.mp h1) h2.2.1
  | succ n ih =>
    intro t h1 h2
    obtain ⟨k1, k2, k3, k4⟩ := h2
    rcases hl t k2 k1 with z | ⟨s, z1, z2, z3⟩
    · rw [k3] at z
      have z' : tC T m = (t : Int) := z
      rw [lstC, z', if_neg (by omega), Int.toNat_natCast]
      exact List.mem_cons_self
    · have s0 : s ≠ 0 := fun e => by
        rw [e] at z2
        have q := hF.1.1.2.2.2.2.2.1
        have z2' : T.1 627 3840 = (t : Int) := z2
        omega
      have st : s < t := ((hF.1.2.2.2.1.2 s z1).1 t (Or.inr z2)).1
      have ks : Kid N up T m s := ⟨z1, s0, z3.trans k3, by
        rcases h.2.2.2.2.1 s z1 with y | ⟨u, y, _, _, _, y4⟩
        · have z2' : tX T s = (t : Int) := z2
          omega
        · have z2' : tX T s = (t : Int) := z2
          have : u = t := by omega
          rw [this] at y4
          exact y4.symm.trans k4⟩
      exact lst_next (Kid_X h) ⟨k1, k2, k3, k4⟩ z2 320 0 _ (by omega) (Kid_C h hm) (ih s (by omega) ks)
/-- a chain is marked -/
theorem run79n {K25 : Int → ev_St → Option (Unit × ev_St)} {x10 : Int} (hkr : 232 ≤ k) (l5 : ev_aln (k + 5) = 400) (hx : -1 ≤ x10 - 1 ∧ x10 ≤ 400) (hX : mbX N X Mb) : ∀ (r q i b0 : Nat) (c : Int) (U : ev_St), r < q → N ≤ b0 + r → i + r < 400 → mbc Mb b0 c → (∀ t, Mb t → U.1 (k + 5) (f t) = img f (X t) ∧ (f t : Int) < U.1 k 11 ∧ f t < 400) → ∃ V, jl_72_79 Q (k + 1) (229 + 1) x10 K25 q 1 (img f c) (i : Int) U = K25 (x10 - 1) V ∧ (∀ x j, ¬ (x = 229 ∧ ∃ t, t ∈ lstC X r c ∧ j = f t) → V.1 x j = U.1 x j) ∧ (∀ t, t ∈ lstC X r c → V.1 229 (f t) = 1) ∧ V.2 = U.2
  | r, 0, i, b0, c, U, h, _, _, _, _ => by omega
  | 0, q + 1, i, b0, c, U, _, hN, hi, hc, hw => by
    rcases hc with z | ⟨u, z, z1, z2⟩
    · refine ⟨U, ?_, fun _ _ _ => rfl, fun t ht => (by cases ht), rfl⟩
      show jb_72_79 Q _ _ _ _ _ _ _ _ U = _
      unfold jb_72_79
      rw [z, show img f (-1) = -1 from if_pos rfl, sp_jn, if_neg (by omega), if_neg (by decide), sp_if (by omega), show k + 1 - 1 = k from rfl, sp_59, sp_bd, if_pos (if_neg (by omega))]
      try dsimp only
      rw [sp_ck (by omega), show x10 + -1 = x10 - 1 from by omega]
    · have := (hX u z2).1
      omega
  | r + 1, q + 1, i, b0, c, U, hq, hN, hi, hc, hw => by
    have l229 := al228.2
    rcases hc with z | ⟨u, z, z1, z2⟩
    · refine ⟨U, ?_, fun _ _ _ => rfl, fun t ht => ?_, rfl⟩
      · show jb_72_79 Q _ _ _ _ _ _ _ _ U = _
        unfold jb_72_79
        rw [z, show img f (-1) = -1 from if_pos rfl, sp_jn, if_neg (by omega), if_neg (by decide), sp_if (by omega), show k + 1 - 1 = k from rfl, sp_59, sp_bd, if_pos (if_neg (by omega))]
        try dsimp only
        rw [sp_ck (by omega), show x10 + -1 = x10 - 1 from by omega]
      · rw [lstC, if_pos z] at ht
        cases ht
    · have e : lstC X (r + 1) c = u :: lstC X r (X u) := by rw [lstC, if_neg (by omega), z, Int.toNat_natCast]
      rw [e]
      obtain ⟨a1, a2, a3⟩ := hw u z2
      have f1 : ∀ x j, ¬ (x = 229 ∧ j = f u) → (ev_pI U 229 (f u) 1).1 x j = U.1 x j := fun x j h => by rw [sp_pI1, if_neg h]
      obtain ⟨V, v1, v2, v3, v4⟩ := run79n (K25 := K25) hkr l5 hx hX r q (i + 1) (b0 + 1) (X u) (ev_pI U 229 (f u) 1) (by omega) (by omega) (by omega) (mbc_n hX z2 z1) (fun t ht => by rw [f1 _ _ (by omega), f1 _ _ (by omega)]; exact hw t ht)
      refine ⟨V, ?_, fun x j h => ?_, fun t ht => ?_, v4⟩
      · rw [← v1]
        show jb_72_79 Q _ _ _ _ _ _ _ _ U = _
        unfold jb_72_79
        rw [z, img_n, sp_jn, if_neg (by omega), if_neg (by decide), sp_if (by omega), show k + 1 - 1 = k from rfl, sp_59, sp_bd, if_neg (show ¬ ((if 0 ≤ (f u : Int) ∧ (f u : Int) < U.1 k 11 ∧ (f u : Int) < 400 then (1 : Int) else 0) = 0) by rw [if_pos ⟨by omega, a2, by omega⟩]; decide), sp_if (by omega), show (229 + 1 - 1 : Nat) = 229 from rfl, sp_if (by rw [l229]; omega), sp_b, sp_if (by omega), sp_if (by rw [l5]; omega), sp_b, Int.toNat_natCast, f1 _ _ (by omega), a1, sp_ck (by omega), show (i : Int) + 1 = ((i + 1 : Nat) : Int) from by omega]
      · rw [v2 x j (fun ⟨y1, t, y2, y3⟩ => h ⟨y1, t, List.mem_cons_of_mem _ y2, y3⟩), f1 x j (fun y => h ⟨y.1, u, List.mem_cons_self, y.2⟩)]
      · by_cases y : ∃ s, s ∈ lstC X r (X u) ∧ f t = f s
        · obtain ⟨s, y1, y2⟩ := y
          rw [y2]
          exact v3 s y1
        · rw [v2 229 (f t) (fun ⟨_, s, y1, y2⟩ => y ⟨s, y1, y2⟩)]
          rcases List.mem_cons.mp ht with w | w
          · rw [w, rd_eq]
          · exact absurd ⟨t, w, rfl⟩ y
/-- children's kinds -/
theorem PAR (hF : FINX k N M φ ψ own up S T) {m : Nat} : ∀ n t, t ≤ n → t < N → t ≠ 0 → up t = m → (tK T t = 18 ↔ tK T m ≠ 18) := fun n => by
  have h := TREE_of hF
  induction n with
  | zero => intro t h1 _ h3 _; exact absurd (Nat.le_zero.mp h1) h3
  | succ n ih =>
    intro t h1 ht h0 e
    rcases hF.1.2.1.1.2.2.2 t h0 ht with z | ⟨s, z1, z2, z3⟩
    · have hm : up t < N := hF.1.2.1.1.1 t ht
      rw [e] at z hm
      have z' : tC T m = (t : Int) := z
      rcases h.2.2.2.1 m hm with y | ⟨u, y, _, _, _, y4⟩
      · omega
      · have : u = t := by omega
        rw [← this]
        exact y4
    · have z2' : tX T s = (t : Int) := z2
      rcases h.2.2.2.2.1 s z1 with y | ⟨u, y, y1, _, _, y4⟩
      · omega
      · have : u = t := by omega
        rw [this] at y4 y1
        have s0 : s ≠ 0 := fun es => by
          have q := hF.1.1.2.2.2.2.2.1
          rw [es] at z2
          have z3' : T.1 627 3840 = (t : Int) := z2
          omega
        exact y4.trans (ih s (by omega) z1 s0 (z3.trans e))
/-- what is never written, from the node b on -/
def NVI (k N : Nat) (φ ψ up : Nat → Nat) (T : ev_St) (b : Nat) (U : ev_St) : Prop := (∀ t, t < N → t ≠ 0 → (b ≤ φ (up t) → (U.1 229 (ψ t) ≠ 0 ↔ U.1 229 (φ (up t)) ≠ 0)) ∧ (φ (up t) < b → U.1 229 (ψ t) = 0)) ∧ (∀ m, m < N → (tR T m = 0 ∨ tR T m = 1) → (b ≤ ψ m → (U.1 229 (φ m) ≠ 0 ↔ U.1 229 (ψ m) ≠ 0 ∨ tH T m = 0)) ∧ (ψ m < b → U.1 229 (φ m) = 0)) ∧ U.1 229 (φ 0) = 0
theorem kcl_nr {c f : Int} (h : 0 ≤ c ∧ c ≤ 18) : ¬ (kcl c f = 13 ∨ kcl c f = 14) := by
  have hc : c = 0 ∨ c = 1 ∨ c = 2 ∨ c = 3 ∨ c = 4 ∨ c = 5 ∨ c = 6 ∨ c = 7 ∨ c = 8 ∨ c = 9 ∨ c = 10 ∨ c = 11 ∨ c = 12 ∨ c = 13 ∨ c = 14 ∨ c = 15 ∨ c = 16 ∨ c = 17 ∨ c = 18 := by omega
  rcases hc with z | z | z | z | z | z | z | z | z | z | z | z | z | z | z | z | z | z | z <;> subst z <;> by_cases y : f = 0 <;> simp [kcl, y]
theorem head72 {K25 : Int → ev_St → Option (Unit × ev_St)} (hk : ev_isOb k 5 = true) (hb : b < 400) : ∃ out : Int, (out = 1 ∧ (U.1 229 b ≠ 0 ∨ ((U.1 (k + 1) b = 13 ∨ U.1 (k + 1) b = 14) ∧ U.1 (k + 3) b = 0)) ∨ out = 0 ∧ ¬ (U.1 229 b ≠ 0 ∨ ((U.1 (k + 1) b = 13 ∨ U.1 (k + 1) b = 14) ∧ U.1 (k + 3) b = 0))) ∧ jb_72_25 Q (k + 1) (229 + 1) K25 (b : Int) U = jl_72_79 Q (k + 1) (229 + 1) (b : Int) K25 Q out (U.1 (k + 4) b) 0 U := by
  obtain ⟨l1, l2, l3, l4, l5, _⟩ := al_Pt hk
  have l229 := al228.2
  have tl : ∀ x19 : Int, ((fun (x19 : Int) (s24 : ev_St) => ev_if (k + 1 ≠ 0) (ev_if ((0 : Int) ≤ (b : Int) ∧ (b : Int) < (ev_aln (((k + 1) - 1) + 4) : Int)) (ev_b (s24.1 (((k + 1) - 1) + 4) (Int.toNat (b : Int))) fun x26 => jl_72_79 Q (k + 1) (229 + 1) (b : Int) K25 Q x19 x26 0 s24))) x19 U) = jl_72_79 Q (k + 1) (229 + 1) (b : Int) K25 Q x19 (U.1 (k + 4) b) 0 U := fun x19 => by
    try dsimp only
    rw [sp_if (by omega), show k + 1 - 1 = k from rfl, sp_if (by rw [l4]; omega), sp_b, Int.toNat_natCast]
  have start : jb_72_25 Q (k + 1) (229 + 1) K25 (b : Int) U = (if U.1 229 b ≠ 0 then jl_72_79 Q (k + 1) (229 + 1) (b : Int) K25 Q 1 (U.1 (k + 4) b) 0 U else if (U.1 (k + 1) b = 13 ∨ U.1 (k + 1) b = 14) ∧ U.1 (k + 3) b = 0 then jl_72_79 Q (k + 1) (229 + 1) (b : Int) K25 Q 1 (U.1 (k + 4) b) 0 U else jl_72_79 Q (k + 1) (229 + 1) (b : Int) K25 Q 0 (U.1 (k + 4) b) 0 U) := by
    unfold jb_72_25
    rw [if_neg (by omega), sp_if (by omega), show (229 + 1 - 1 : Nat) = 229 from rfl, sp_if (by rw [l229]; omega), sp_b, sp_jn, sp_jn]
    by_cases a : U.1 229 b = 0
    · rw [if_neg (show ¬ U.1 229 (Int.toNat (b : Int)) ≠ 0 by rw [Int.toNat_natCast]; exact fun z => z a), if_neg (fun z => z a), sp_if (by omega), show k + 1 - 1 = k from rfl, sp_if (by rw [l1]; omega), sp_b, sp_62, sp_bd, sp_jn]
      by_cases c : U.1 (k + 1) b = 13 ∨ U.1 (k + 1) b = 14
      · rw [if_neg (show ¬ ((if U.1 (k + 1) (Int.toNat (b : Int)) = 13 ∨ U.1 (k + 1) (Int.toNat (b : Int)) = 14 then (1 : Int) else 0) = 0) by rw [Int.toNat_natCast, if_pos c]; decide), sp_if (by omega), sp_if (by rw [l3]; omega), sp_b]
        by_cases d : U.1 (k + 3) b = 0
        · rw [if_neg (show ¬ U.1 (k + 3) (Int.toNat (b : Int)) ≠ 0 by rw [Int.toNat_natCast]; exact fun z => z d), if_pos ⟨c, d⟩]
          exact tl 1
        · rw [if_pos (show U.1 (k + 3) (Int.toNat (b : Int)) ≠ 0 by rw [Int.toNat_natCast]; exact d), if_neg (fun z => d z.2)]
          exact tl 0
      · rw [if_pos (show (if U.1 (k + 1) (Int.toNat (b : Int)) = 13 ∨ U.1 (k + 1) (Int.toNat (b : Int)) = 14 then (1 : Int) else 0) = 0 by rw [Int.toNat_natCast, if_neg c]), if_neg (fun z => c z.1)]
        exact tl 0
    · rw [if_pos (show U.1 229 (Int.toNat (b : Int)) ≠ 0 by rw [Int.toNat_natCast]; exact a), if_pos a]
      exact tl 1
  by_cases a : U.1 229 b ≠ 0
  · exact ⟨1, Or.inl ⟨rfl, Or.inl a⟩, by rw [start, if_pos a]⟩
  · by_cases c : (U.1 (k + 1) b = 13 ∨ U.1 (k + 1) b = 14) ∧ U.1 (k + 3) b = 0
    · exact ⟨1, Or.inl ⟨rfl, Or.inr c⟩, by rw [start, if_neg a, if_pos c]⟩
    · exact ⟨0, Or.inr ⟨rfl, fun z => by rcases z with z | z; exact a z; exact c z⟩, by rw [start, if_neg a, if_neg c]⟩
/-- a chain that is not marked -/
theorem run79z {K25 : Int → ev_St → Option (Unit × ev_St)} {x10 c : Int} (hQ : 1 ≤ Q) (hx : -1 ≤ x10 - 1 ∧ x10 ≤ 400) : jl_72_79 Q (k + 1) (229 + 1) x10 K25 Q 0 c 0 U = K25 (x10 - 1) U := by
  obtain ⟨q, hq⟩ : ∃ q, Q = q + 1 := ⟨Q - 1, by omega⟩
  have e : ∀ n, n = q + 1 → jl_72_79 Q (k + 1) (229 + 1) x10 K25 n 0 c 0 U = K25 (x10 - 1) U := fun n hn => by
    subst hn
    show jb_72_79 Q _ _ _ _ _ _ _ _ U = _
    unfold jb_72_79
    rw [sp_jn, if_neg (by omega), if_pos rfl]
    try dsimp only
    rw [sp_ck (by omega), show x10 + -1 = x10 - 1 from by omega]
  exact e Q hq
theorem run72 (hF : FINX k N M φ ψ own up S T) (hk : ev_isOb k 5 = true) (hkr : 232 ≤ k) (hQ : 400 ≤ Q) (hr2 : ∀ m, m < N → tR T m ≠ 2) : ∀ (n q : Nat) (U : ev_St), n < q → n ≤ M → (∀ x j, x ≠ 229 → U.1 x j = S.1 x j) → NVI k N φ ψ up T n U → ∃ V, jl_72_25 Q (k + 1) (229 + 1) q ((n : Int) - 1) U = some ((), V) ∧ (∀ x j, x ≠ 229 → V.1 x j = U.1 x j) ∧ V.2 = U.2 ∧ NVI k N φ ψ up T 0 V
  | n, 0, U, h, _, _, _ => by omega
  | 0, q + 1, U, _, _, hS, hI => by
    refine ⟨U, ?_, fun _ _ _ => rfl, rfl, hI⟩
    show jb_72_25 Q _ _ _ _ U = _
    unfold jb_72_25
    rw [if_pos (by omega)]
  | b + 1, q + 1, U, hq, hb, hS, hI => by
    have h := TREE_of hF
    obtain ⟨l1, l2, l3, l4, l5, _⟩ := al_Pt hk
    have hM : M ≤ 400 := hF.2.1.2.1
    have hN : N ≤ 320 := hF.2.1.2.2.2
    have kM : U.1 k 11 = (M : Int) := by rw [hS _ _ (by omega)]; exact hF.2.1.1
    obtain ⟨i1, i2, i3⟩ := hI
    obtain ⟨out, ho, run⟩ := head72 (Q := Q) (b := b) (U := U) (K25 := jl_72_25 Q (k + 1) (229 + 1) q) hk (by omega)
    rw [hS (k + 1) b (by omega), hS (k + 3) b (by omega)] at ho
    rw [hS (k + 4) b (by omega)] at run
    obtain ⟨m, hmE⟩ : ∃ m, m = own b := ⟨_, rfl⟩
    obtain ⟨hm, hb'⟩ := h.2.2.2.2.2.2.1 b (by omega)
    rw [← hmE] at hm hb'
    have uφ : ∀ m', m' < N → φ m' = b → m' = m := fun m' h' e => by rw [hmE, ← e]; exact (h.1 m' h').2.2.1.symm
    have uψ : ∀ m', m' < N → ψ m' = b → m' = m := fun m' h' e => by rw [hmE, ← e]; exact (h.1 m' h').2.2.2.symm
    have upN : ∀ t, t < N → up t < N := hF.1.2.1.1.1
    have e1 : ((b + 1 : Nat) : Int) - 1 = (b : Int) := by omega
    -- what is marked, and what it comes to
    have fin : ∀ V, (∀ x j, x ≠ 229 → V.1 x j = U.1 x j) → V.2 = U.2 → jb_72_25 Q (k + 1) (229 + 1) (jl_72_25 Q (k + 1) (229 + 1) q) (b : Int) U = jl_72_25 Q (k + 1) (229 + 1) q ((b : Int) - 1) V → NVI k N φ ψ up T b V → ∃ V, jl_72_25 Q (k + 1) (229 + 1) (q + 1) (((b + 1 : Nat) : Int) - 1) U = some ((), V) ∧ (∀ x j, x ≠ 229 → V.1 x j = U.1 x j) ∧ V.2 = U.2 ∧ NVI k N φ ψ up T 0 V := fun V f1 f2 f3 f4 => by
      obtain ⟨V2, r1, r2, r3, r4⟩ := run72 hF hk hkr hQ hr2 b q V (by omega) (by omega) (fun x j hx => (f1 x j hx).trans (hS x j hx)) f4
      refine ⟨V2, ?_, fun x j hx => (r2 x j hx).trans (f1 x j hx), r3.trans f2, r4⟩
      rw [e1]
      show jb_72_25 Q _ _ _ _ U = _
      rw [f3]
      exact r1
    by_cases c1 : b = φ m
    · have nrep : ¬ (S.1 (k + 1) b = 13 ∨ S.1 (k + 1) b = 14) := by
        obtain ⟨kr, kk⟩ := FINX_K hF hm
        rw [c1]
        rcases kk with ⟨_, _, z⟩ | ⟨_, z⟩
        · omega
        · rw [z]
          exact kcl_nr kr
      have ho' : (out = 1 ∧ U.1 229 b ≠ 0) ∨ (out = 0 ∧ U.1 229 b = 0) := by
        rcases ho with ⟨z, y | y⟩ | ⟨z, y⟩
        · exact Or.inl ⟨z, y⟩
        · exact absurd y.1 nrep
        · exact Or.inr ⟨z, Classical.byContradiction fun w => y (Or.inl w)⟩
      have vac : ∀ m', m' < N → (tR T m' = 0 ∨ tR T m' = 1) → ψ m' ≠ b := fun m' h' hr e => by
        have q := (TREE_r h h').1 hr
        rw [uψ m' h' e] at q e
        omega
      rcases ho' with ⟨o1, o2⟩ | ⟨o1, o2⟩
      · -- the children are marked
        have mk : ∃ V, jb_72_25 Q (k + 1) (229 + 1) (jl_72_25 Q (k + 1) (229 + 1) q) (b : Int) U = jl_72_25 Q (k + 1) (229 + 1) q ((b : Int) - 1) V ∧ (∀ x j, ¬ (x = 229 ∧ ∃ t, Kid N up T m t ∧ j = ψ t) → V.1 x j = U.1 x j) ∧ (∀ t, Kid N up T m t → V.1 229 (ψ t) = 1) ∧ V.2 = U.2 := by
          rw [run, o1]
          by_cases k18 : tK T m = 18
          · have hc : S.1 (k + 4) b = img ψ (tC T m) := by rw [c1]; exact (h.2.1 m hm).1 k18
            rw [hc]
            obtain ⟨V, v1, v2, v3, v4⟩ := run79n (Q := Q) (K25 := jl_72_25 Q (k + 1) (229 + 1) q) (x10 := (b : Int)) (f := ψ) hkr l5 (by omega) (Kid_X h (m := m)) 320 Q 0 0 (tC T m) U (by omega) (by omega) (by omega) (Kid_C h hm) (fun t ht => by
              rw [hS _ _ (by omega), kM]
              have := (h.1 t ht.1).2.1
              exact ⟨(h.2.2.1 t ht.1 ht.2.1).1 (fun y => (ht.2.2.2.mp y) k18), by omega, by omega⟩)
            exact ⟨V, v1, fun x j hx => v2 x j (fun ⟨y1, t, y2, y3⟩ => hx ⟨y1, t, lst_mb (Kid_X h) 320 0 _ (Kid_C h hm) t y2, y3⟩), fun t ht => v3 t (kid_in hF hm t t (Nat.le_refl _) ht), v4⟩
          · have hc : S.1 (k + 4) b = img φ (tC T m) := by rw [c1]; exact (h.2.1 m hm).2 k18
            have kp : ∀ t, Kid N up T m t → φ t = ψ t ∧ tK T t = 18 := fun t ht => by
              have k18' : tK T t = 18 := ht.2.2.2.mpr k18
              exact ⟨((h.2.2.1 t ht.1 ht.2.1).2 k18').2, k18'⟩
            rw [hc]
            obtain ⟨V, v1, v2, v3, v4⟩ := run79n (Q := Q) (K25 := jl_72_25 Q (k + 1) (229 + 1) q) (x10 := (b : Int)) (f := φ) hkr l5 (by omega) (Kid_X h (m := m)) 320 Q 0 0 (tC T m) U (by omega) (by omega) (by omega) (Kid_C h hm) (fun t ht => by
              rw [hS _ _ (by omega), kM]
              have := (h.1 t ht.1).1
              exact ⟨((h.2.2.1 t ht.1 ht.2.1).2 (kp t ht).2).1, by omega, by omega⟩)
            exact ⟨V, v1, fun x j hx => v2 x j (fun ⟨y1, t, y2, y3⟩ => by
              have ht := lst_mb (Kid_X h) 320 0 _ (Kid_C h hm) t y2
              exact hx ⟨y1, t, ht, by rw [← (kp t ht).1]; exact y3⟩), fun t ht => by rw [← (kp t ht).1]; exact v3 t (kid_in hF hm t t (Nat.le_refl _) ht), v4⟩
        obtain ⟨V, v1, v2, v3, v4⟩ := mk
        have kb : ∀ t, Kid N up T m t → ψ t < b := fun t ht => by
          have q := h.2.2.2.2.2.1 t ht.1 ht.2.1
          rw [ht.2.2.1] at q
          omega
        have big : ∀ j, b ≤ j → V.1 229 j = U.1 229 j := fun j hj => v2 229 j (fun ⟨_, t, y2, y3⟩ => by have := kb t y2; omega)
        refine fin V (fun x j hx => v2 x j (fun y => hx y.1)) v4 v1 ⟨fun t ht h0 => ?_, fun m' h' hr => ?_, ?_⟩
        · have parity : up t = m → Kid N up T m t := fun e => ⟨ht, h0, e, by
            rcases hF.1.2.1.1.2.2.2 t h0 ht with z | ⟨s, z1, z2, z3⟩
            · rw [e] at z
              rcases h.2.2.2.1 m hm with y | ⟨u, y, _, _, _, y4⟩
              · have z' : tC T m = (t : Int) := z
                omega
              · have z' : tC T m = (t : Int) := z
                have : u = t := by omega
                rw [← this]
                exact y4
            · exact (PAR hF t t (Nat.le_refl _) ht h0 (m := m) e)⟩
          by_cases e : up t = m
          · have kt := parity e
            refine ⟨fun _ => ?_, fun z => absurd z (by rw [e, ← c1]; omega)⟩
            rw [v3 t kt, e, ← c1, big b (Nat.le_refl _)]
            exact ⟨fun _ => o2, fun _ => by decide⟩
          · have nb : φ (up t) ≠ b := fun z => e (uφ _ (upN t ht) z)
            have vt : V.1 229 (ψ t) = U.1 229 (ψ t) := v2 229 (ψ t) (fun ⟨_, s, y2, y3⟩ => by
              have q1 := (h.1 t ht).2.2.2
              have q2 := (h.1 s y2.1).2.2.2
              rw [y3, q2] at q1
              exact e (by rw [← q1]; exact y2.2.2.1))
            rw [vt]
            refine ⟨fun z => ?_, fun z => (i1 t ht h0).2 (by omega)⟩
            rw [big _ z]
            exact (i1 t ht h0).1 (by omega)
        · have nb := vac m' h' hr
          have vt : V.1 229 (φ m') = U.1 229 (φ m') := v2 229 (φ m') (fun ⟨_, s, y2, y3⟩ => by
            have q1 := (h.1 m' h').2.2.1
            have q2 := (h.1 s y2.1).2.2.2
            rw [y3, q2] at q1
            have q3 := (TREE_r h h').1 hr
            rw [← q1] at q3 y3
            omega)
          rw [vt]
          refine ⟨fun z => ?_, fun z => (i2 m' h' hr).2 (by omega)⟩
          rw [big _ z]
          exact (i2 m' h' hr).1 (by omega)
        · rw [v2 229 (φ 0) (fun ⟨_, s, y2, y3⟩ => by
            have q1 := (h.1 0 (by omega)).2.2.1
            have q2 := (h.1 s y2.1).2.2.2
            rw [y3, q2] at q1
            exact y2.2.1 q1)]
          exact i3
      · -- nothing is marked
        refine fin U (fun _ _ _ => rfl) rfl (by rw [run, o1]; exact run79z (by omega) (by omega)) ⟨fun t ht h0 => ⟨fun z => ?_, fun z => (i1 t ht h0).2 (by omega)⟩, fun m' h' hr => ⟨fun z => ?_, fun z => (i2 m' h' hr).2 (by omega)⟩, i3⟩
        · by_cases e : φ (up t) = b
          · rw [(i1 t ht h0).2 (by omega), e, o2]
          · exact (i1 t ht h0).1 (by omega)
        · have := vac m' h' hr
          exact (i2 m' h' hr).1 (by omega)
    · have rm : tR T m = 0 ∨ tR T m = 1 ∧ True := by
        rcases h.2.2.2.2.2.2.2.2 m hm with ⟨z0, z⟩ | ⟨⟨z, _⟩, _⟩ | ⟨⟨z, _⟩, _⟩
        · rcases hb' with y | y | y
          · exact absurd y c1
          · exact absurd (y.trans z) c1
          · exact absurd y.1 (hr2 m hm)
        · rcases z with z | z
          · exact Or.inl z
          · exact Or.inr ⟨z, trivial⟩
        · exact absurd z (hr2 m hm)
      have r01 : tR T m = 0 ∨ tR T m = 1 := rm.imp_right And.left
      have bψ : b = ψ m := by
        rcases hb' with y | y | y
        · exact absurd y c1
        · exact y
        · exact absurd y.1 (hr2 m hm)
      have lt := (TREE_r h hm).1 r01
      obtain ⟨p1, p2, p3, p4⟩ : S.1 (k + 1) b = 13 + tR T m ∧ S.1 (k + 4) b = (φ m : Int) ∧ S.1 (k + 3) b = tH T m ∧ S.1 (k + 5) (φ m) = -1 := by
        rw [bψ]
        rcases h.2.2.2.2.2.2.2.2 m hm with ⟨_, z⟩ | ⟨_, z2, z3, _, z5, z6⟩ | ⟨⟨z, _⟩, _⟩
        · omega
        · exact ⟨z2, z3, z5, z6⟩
        · exact absurd z (hr2 m hm)
      have ho' : (out = 1 ∧ (U.1 229 b ≠ 0 ∨ tH T m = 0)) ∨ (out = 0 ∧ ¬ (U.1 229 b ≠ 0 ∨ tH T m = 0)) := by
        rw [p1, p3] at ho
        rcases ho with ⟨z, y | y⟩ | ⟨z, y⟩
        · exact Or.inl ⟨z, Or.inl y⟩
        · exact Or.inl ⟨z, Or.inr y.2⟩
        · exact Or.inr ⟨z, fun w => y (w.imp_right fun w => ⟨by omega, w⟩)⟩
      have nφ : ∀ m', m' < N → φ m' ≠ b := fun m' h' e => by
        rw [uφ m' h' e] at e
        omega
      have mk : ∃ V, jb_72_25 Q (k + 1) (229 + 1) (jl_72_25 Q (k + 1) (229 + 1) q) (b : Int) U = jl_72_25 Q (k + 1) (229 + 1) q ((b : Int) - 1) V ∧ (∀ x j, ¬ (x = 229 ∧ j = φ m) → V.1 x j = U.1 x j) ∧ (V.1 229 (φ m) ≠ 0 ↔ U.1 229 b ≠ 0 ∨ tH T m = 0) ∧ V.2 = U.2 := by
        rw [run, p2]
        rcases ho' with ⟨o1, o2⟩ | ⟨o1, o2⟩
        · rw [o1]
          have hM' := (h.1 m hm).1
          obtain ⟨V, v1, v2, v3, v4⟩ := run79n (Q := Q) (K25 := jl_72_25 Q (k + 1) (229 + 1) q) (x10 := (b : Int)) (N := 1) (X := fun _ => -1) (f := fun _ => φ m) (Mb := fun t => t = 0) hkr l5 (by omega) mb_one 320 Q 0 0 0 U (by omega) (by omega) (by omega) (Or.inr ⟨0, rfl, by omega, rfl⟩) (fun t ht => by
            rw [hS _ _ (by omega), kM]
            exact ⟨p4, by show (φ m : Int) < M; omega, by show φ m < 400; omega⟩)
          refine ⟨V, v1, fun x j hx => v2 x j (fun ⟨y1, t, y2, y3⟩ => hx ⟨y1, y3⟩), ?_, v4⟩
          have := v3 0 (by rw [show (320 : Nat) = 319 + 1 from rfl, lstC, if_neg (by decide)]; exact List.mem_cons_self)
          rw [show V.1 229 (φ m) = 1 from this]
          exact ⟨fun _ => o2, fun _ => by decide⟩
        · rw [o1]
          refine ⟨U, run79z (by omega) (by omega), fun _ _ _ => rfl, ?_, rfl⟩
          rw [(i2 m hm r01).2 (by omega)]
          exact ⟨fun z => absurd rfl z, fun z => absurd z o2⟩
      obtain ⟨V, v1, v2, v3, v4⟩ := mk
      refine fin V (fun x j hx => v2 x j (fun y => hx y.1)) v4 v1 ⟨fun t ht h0 => ?_, fun m' h' hr => ?_, ?_⟩
      · have vt : V.1 229 (ψ t) = U.1 229 (ψ t) := v2 229 (ψ t) (fun ⟨_, y⟩ => by
          have q1 := (h.1 t ht).2.2.2
          rw [y, (h.1 m hm).2.2.1] at q1
          rw [← q1] at y
          omega)
        have nb := nφ (up t) (upN t ht)
        rw [vt]
        refine ⟨fun z => ?_, fun z => (i1 t ht h0).2 (by omega)⟩
        rw [v2 229 (φ (up t)) (fun y => by omega)]
        exact (i1 t ht h0).1 (by omega)
      · by_cases e : m' = m
        · rw [e, v2 229 (ψ m) (fun y => by omega), ← bψ]
          exact ⟨fun _ => v3, fun z => by omega⟩
        · have nb : ψ m' ≠ b := fun z => e (uψ m' h' z)
          have vt : V.1 229 (φ m') = U.1 229 (φ m') := v2 229 (φ m') (fun ⟨_, y⟩ => by
            have q1 := (h.1 m' h').2.2.1
            rw [y, (h.1 m hm).2.2.1] at q1
            exact e q1.symm)
          rw [vt]
          refine ⟨fun z => ?_, fun z => (i2 m' h' hr).2 (by omega)⟩
          rw [v2 229 (ψ m') (fun y => by omega)]
          exact (i2 m' h' hr).1 (by omega)
      · by_cases e : φ 0 = φ m
        · have q1 := (h.1 0 (by omega)).2.2.1
          rw [e, (h.1 m hm).2.2.1] at q1
          have q2 := hF.1.1.2.2.2.2.2.2
          rw [q1] at r01
          have q3 : tR T 0 = -1 := q2
          omega
        · rw [v2 229 (φ 0) (fun y => e y.2)]
          exact i3
end PROG5
