/-! RUNAWAY: the reference climbs -/
section OPXZ
variable {Q k p N M m n g u s : Nat} {φ ψ own up : Nat → Nat} {S S0 T T0 U V : ev_St} {W : Nat → FV} {X : Nat → Int} {Mb : Nat → Prop} {a : Int}
theorem sp_282 (hp : p < 12) (hu : u < 320) (ha : AG0 p T0 U) : ∃ v, jm_282 Q ((320 * p + u : Nat) : Int) U = some (v, U) ∧ tv v (infN p T0 u) := by
  obtain ⟨l25, l26, l27, l28, _, l30, l31, l32, _⟩ := al_K
  have e30 := ha.1 630 u (by omega) hu
  have e32 := ha.1 632 u (by omega) hu
  have tl : (ev_if ((0 : Int) ≤ ((320 * p + u : Nat) : Int) ∧ ((320 * p + u : Nat) : Int) < (ev_aln 632 : Int)) (ev_b (U.1 632 (320 * p + u)) fun x6 => if x6 ≠ (-1) then (some ((0 : Int), U)) else (some (1, U)))) = some (if T0.1 632 (320 * p + u) = -1 then 1 else 0, U) := by
    rw [sp_if (by rw [l32]; omega), sp_b, e32]
    by_cases y : T0.1 632 (320 * p + u) = -1
    · rw [if_neg (fun z => z y), if_pos y]
    · rw [if_pos y, if_neg y]
  by_cases r : T0.1 630 (320 * p + u) = 0 ∨ T0.1 630 (320 * p + u) = 1
  · refine ⟨if T0.1 632 (320 * p + u) = -1 then 1 else 0, ?_, ?_⟩
    · unfold jm_282
      rw [sp_if (by rw [l30]; omega), sp_b, sp_jn, Int.toNat_natCast, e30]
      by_cases z : T0.1 630 (320 * p + u) = 0
      · rw [if_pos z]
        try dsimp only
        exact tl
      · rw [if_neg z, sp_if (by rw [l30]; omega), sp_b, if_neg (by omega)]
        try dsimp only
        exact tl
    · by_cases y : T0.1 632 (320 * p + u) = -1
      · exact Or.inl ⟨if_pos y, r, y⟩
      · exact Or.inr ⟨if_neg y, fun z => y z.2⟩
  · refine ⟨0, ?_, Or.inr ⟨rfl, fun z => r z.1⟩⟩
    unfold jm_282
    rw [sp_if (by rw [l30]; omega), sp_b, sp_jn, Int.toNat_natCast, e30, if_neg (by omega), sp_if (by rw [l30]; omega), sp_b, if_pos (by omega)]
theorem sp_284 (hp : p < 12) (hu : u < 320) (ha : AG0 p T0 U) : ∃ v, jm_284 Q ((320 * p + u : Nat) : Int) U = some (v, U) ∧ tv v (barN p T0 u) := by
  obtain ⟨l25, l26, l27, l28, _, l30, l31, l32, _⟩ := al_K
  have e30 := ha.1 630 u (by omega) hu
  have e25 := ha.1 625 u (by omega) hu
  unfold jm_284
  rw [sp_if (by rw [l25]; omega), sp_b, Int.toNat_natCast, e25]
  by_cases y : T0.1 625 (320 * p + u) = 11
  · exact ⟨1, by rw [if_pos y], Or.inl ⟨rfl, Or.inl y⟩⟩
  · rw [if_neg y, sp_if (by rw [l25]; omega), sp_b]
    by_cases y2 : T0.1 625 (320 * p + u) = 12
    · exact ⟨1, by rw [if_pos y2], Or.inl ⟨rfl, Or.inr (Or.inl y2)⟩⟩
    · rw [if_neg y2, sp_if (by rw [l25]; omega), sp_b]
      by_cases y3 : T0.1 625 (320 * p + u) = 10
      · exact ⟨1, by rw [if_pos y3], Or.inl ⟨rfl, Or.inr (Or.inr (Or.inl y3))⟩⟩
      · rw [if_neg y3, sp_if (by rw [l30]; omega), sp_b, e30]
        by_cases y4 : T0.1 630 (320 * p + u) = 2
        · exact ⟨1, by rw [if_neg (fun z => z y4)], Or.inl ⟨rfl, Or.inr (Or.inr (Or.inr y4))⟩⟩
        · exact ⟨0, by rw [if_pos y4], Or.inr ⟨rfl, by rintro (z | z | z | z); exact y z; exact y2 z; exact y3 z; exact y4 z⟩⟩
/-- parents as they are written -/
def UPw (N : Nat) (up : Nat → Nat) (U : ev_St) : Prop := (∀ t, t < N → t ≠ 0 → U.1 659 t = (up t : Int)) ∧ U.1 659 0 = -1
theorem run286 (hp : p < 12) (hN : N ≤ 320) (ha : AG0 p T0 U) (hw : UPw N up U) (hu : ∀ t, t < N → t ≠ 0 → up t < t) : ∀ (n u q : Nat) (x2 : Int) (al : Prop), u ≤ n → u < N → n < q → tv x2 al → ∃ v, jl_286_10 Q (p : Int) q x2 (U.1 659 u) U = some (v, U) ∧ tv v (al ∧ nbF up p T0 n u) := fun n => by
  obtain ⟨_, l59⟩ := al658
  have stop : ∀ (q : Nat) (x2 : Int) (al : Prop), 0 < q → tv x2 al → jl_286_10 Q (p : Int) q x2 (U.1 659 0) U = some (x2, U) := fun q x2 al hq h => by
    obtain ⟨q, rfl⟩ : ∃ r, q = r + 1 := ⟨q - 1, by omega⟩
    rw [hw.2]
    show jb_286_10 Q _ _ _ _ U = _
    unfold jb_286_10
    rw [if_pos rfl, sp_if (by rcases h with h | h; exact Or.inr h.1; exact Or.inl h.1)]
  induction n with
  | zero =>
    intro u q x2 al h1 h2 h3 h4
    obtain rfl : u = 0 := by omega
    refine ⟨x2, stop q x2 al h3 h4, ?_⟩
    rcases h4 with ⟨y, y2⟩ | ⟨y, y2⟩
    · exact Or.inl ⟨y, y2, trivial⟩
    · exact Or.inr ⟨y, fun z => y2 z.1⟩
  | succ n ih =>
    intro u q x2 al h1 h2 h3 h4
    by_cases e : u = 0
    · subst e
      refine ⟨x2, stop q x2 al (by omega) h4, ?_⟩
      rcases h4 with ⟨y, y2⟩ | ⟨y, y2⟩
      · exact Or.inl ⟨y, y2, Or.inl rfl⟩
      · exact Or.inr ⟨y, fun z => y2 z.1⟩
    · obtain ⟨q, rfl⟩ : ∃ r, q = r + 1 := ⟨q - 1, by omega⟩
      have lt := hu u h2 e
      obtain ⟨b, b1, b2⟩ := sp_284 (Q := Q) (u := up u) hp (by omega) ha
      obtain ⟨x12, hx⟩ : ∃ x12 : Int, x12 = if x2 = 0 then 0 else if b ≠ 0 then 0 else 1 := ⟨_, rfl⟩
      have t12 : tv x12 (al ∧ ¬ barN p T0 (up u)) := by
        rcases h4 with ⟨y, y2⟩ | ⟨y, y2⟩
        · rw [if_neg (by omega)] at hx
          rcases b2 with ⟨w, w2⟩ | ⟨w, w2⟩
          · rw [if_pos (by omega)] at hx
            exact Or.inr ⟨hx, fun z => z.2 w2⟩
          · rw [if_neg (by omega)] at hx
            exact Or.inl ⟨hx, y2, w2⟩
        · rw [if_pos y] at hx
          exact Or.inr ⟨hx, fun z => y2 z.1⟩
      obtain ⟨v, r1, r2⟩ := ih (up u) q x12 _ (by omega) (by omega) (by omega) t12
      refine ⟨v, ?_, ?_⟩
      · rw [← r1, hw.1 u h2 e]
        show jb_286_10 Q _ _ _ _ U = _
        unfold jb_286_10
        have tl : ∀ JJ : Int → ev_St → Option (Int × ev_St), ev_jn JJ (fun K40 => ev_jn (fun (s23 : ev_St) => K40 0 s23) fun K39 => if x2 = 0 then (K39 U) else (ev_ck (320 * (p : Int)) fun x25 => ev_ck (x25 + (up u : Int)) fun x26 => ev_bd (jm_284 Q x26 U) fun x28 s27 => if x28 ≠ 0 then (K39 s27) else (K40 1 s27))) = JJ x12 U := fun JJ => by
          rw [sp_jn, sp_jn, hx]
          by_cases y : x2 = 0
          · rw [if_pos y, if_pos y]
          · rw [if_neg y, if_neg y, sp_ck (by omega), sp_ck (by omega), show 320 * (p : Int) + (up u : Int) = ((320 * p + up u : Nat) : Int) from by omega, b1, sp_bd]
            by_cases w : b ≠ 0
            · rw [if_pos w, if_pos w]
            · rw [if_neg w, if_neg w]
        rw [if_neg (by omega), tl]
        try dsimp only
        rw [sp_if (by rw [l59]; omega), sp_b, Int.toNat_natCast]
      · rcases r2 with ⟨y, y2⟩ | ⟨y, y2⟩
        · exact Or.inl ⟨y, y2.1.1, Or.inr ⟨y2.1.2, y2.2⟩⟩
        · exact Or.inr ⟨y, fun z => y2 ⟨⟨z.1, (z.2.resolve_left e).1⟩, (z.2.resolve_left e).2⟩⟩
theorem sp_286 (hp : p < 12) (hN : N ≤ 320) (hQ : 400 ≤ Q) (ha : AG0 p T0 U) (hw : UPw N up U) (hu : ∀ t, t < N → t ≠ 0 → up t < t) (h : u < N) : ∃ v, jm_286 Q (p : Int) (u : Int) U = some (v, U) ∧ tv v (nbF up p T0 320 u) := by
  obtain ⟨_, l59⟩ := al658
  obtain ⟨v, r1, r2⟩ := run286 (Q := Q) hp hN ha hw hu 320 u Q 1 True (by omega) h (by omega) (Or.inl ⟨rfl, trivial⟩)
  refine ⟨v, ?_, ?_⟩
  · unfold jm_286
    rw [sp_if (by rw [l59]; omega), sp_b, Int.toNat_natCast]
    exact r1
  · rcases r2 with ⟨y, y2⟩ | ⟨y, y2⟩
    · exact Or.inl ⟨y, y2.2⟩
    · exact Or.inr ⟨y, fun z => y2 ⟨trivial, z⟩⟩
theorem in285 {x14 : Int} {K252 : Int → Int → Int → ev_St → Option (Int × ev_St)} (hp : p < 12) (hX : mbX N X Mb) (hN : N ≤ 320) (ha : AG0 p T0 U) (hXT : ∀ t, Mb t → X t = T0.1 627 (320 * p + t)) : ∀ (n b0 q : Nat) (c x117 : Int) (P : Prop), n < q → N ≤ b0 + n → mbc Mb b0 c → tv x117 P → ∃ v, jl_285_97 Q (p : Int) (320 * (p : Int)) x14 (s : Int) (u : Int) K252 q x117 c U = K252 v x14 (u : Int) U ∧ tv v (P ∧ ∀ t, t ∈ lstC X n c → t ≠ s → T0.1 641 (320 * p + t) = 0) := fun n => by
  obtain ⟨l25, l26, l27, l28, _, l30, l31, l32, _⟩ := al_K
  obtain ⟨_, l41, _, _⟩ := al_F
  have stop : ∀ (q : Nat) (x117 : Int) (P : Prop), 0 < q → tv x117 P → ∃ v, jl_285_97 Q (p : Int) (320 * (p : Int)) x14 (s : Int) (u : Int) K252 q x117 (-1) U = K252 v x14 (u : Int) U ∧ tv v (P ∧ ∀ t, t ∈ ([] : List Nat) → t ≠ s → T0.1 641 (320 * p + t) = 0) := fun q x117 P hq h => by
    obtain ⟨q, rfl⟩ : ∃ r, q = r + 1 := ⟨q - 1, by omega⟩
    refine ⟨x117, ?_, ?_⟩
    · show jb_285_97 Q _ _ _ _ _ _ _ _ _ U = _
      unfold jb_285_97
      rw [if_pos rfl]
    · rcases h with ⟨y, y2⟩ | ⟨y, y2⟩
      · exact Or.inl ⟨y, y2, fun t ht => by cases ht⟩
      · exact Or.inr ⟨y, fun z => y2 z.1⟩
  induction n with
  | zero =>
    intro b0 q c x117 P hq hb hc h
    rcases hc with z | ⟨t, z, z1, z2⟩
    · rw [z]
      exact stop q x117 P hq h
    · have := (hX t z2).1
      omega
  | succ n ih =>
    intro b0 q c x117 P hq hb hc h
    rcases hc with z | ⟨t, z, z1, z2⟩
    · rw [z, lst_0 rfl]
      exact stop q x117 P (by omega) h
    · obtain ⟨q, rfl⟩ : ∃ r, q = r + 1 := ⟨q - 1, by omega⟩
      have tN := (hX t z2).1
      have e41 := ha.1 641 t (by omega) (by omega)
      have e27 := ha.1 627 t (by omega) (by omega)
      have ex := hXT t z2
      obtain ⟨x130, hx⟩ : ∃ x130 : Int, x130 = if x117 = 0 then 0 else if t = s then 1 else if T0.1 641 (320 * p + t) ≠ 0 then 0 else 1 := ⟨_, rfl⟩
      have t130 : tv x130 (P ∧ (t ≠ s → T0.1 641 (320 * p + t) = 0)) := by
        rcases h with ⟨y, y2⟩ | ⟨y, y2⟩
        · rw [if_neg (by omega)] at hx
          by_cases w : t = s
          · rw [if_pos w] at hx
            exact Or.inl ⟨hx, y2, fun v => absurd w v⟩
          · rw [if_neg w] at hx
            by_cases w2 : T0.1 641 (320 * p + t) = 0
            · rw [if_neg (fun v => v w2)] at hx
              exact Or.inl ⟨hx, y2, fun _ => w2⟩
            · rw [if_pos w2] at hx
              exact Or.inr ⟨hx, fun v => w2 (v.2 w)⟩
        · rw [if_pos y] at hx
          exact Or.inr ⟨hx, fun v => y2 v.1⟩
      have st : ∀ JJ : Int → ev_St → Option (Int × ev_St), ev_jn JJ (fun K132 => ev_jn (fun (s150 : ev_St) => K132 0 s150) fun K131 => if x117 = 0 then (K131 U) else (ev_jn (fun (s160 : ev_St) => K132 1 s160) fun K127 => if (t : Int) = (s : Int) then (K127 U) else (ev_ck (320 * (p : Int) + (t : Int)) fun x162 => ev_if ((0 : Int) ≤ x162 ∧ x162 < (ev_aln 641 : Int)) (ev_b (U.1 641 (Int.toNat x162)) fun x163 => if x163 ≠ 0 then (K131 U) else (K127 U))))) = JJ x130 U := fun JJ => by
        rw [sp_jn, sp_jn, hx]
        by_cases y : x117 = 0
        · rw [if_pos y, if_pos y]
        · rw [if_neg y, if_neg y, sp_jn]
          by_cases w : t = s
          · rw [if_pos (by omega), if_pos w]
          · rw [if_neg (by omega), if_neg w, sp_ck (by omega), sp_if (by rw [l41]; omega), sp_b, show (320 * (p : Int) + (t : Int)).toNat = 320 * p + t from by omega, e41]
            by_cases w2 : T0.1 641 (320 * p + t) ≠ 0
            · rw [if_pos w2, if_pos w2]
            · rw [if_neg w2, if_neg w2]
      obtain ⟨v, r1, r2⟩ := ih (b0 + 1) q (X t) x130 _ (by omega) (by omega) (mbc_n hX z2 z1) t130
      rw [z, lst_s]
      refine ⟨v, ?_, ?_⟩
      · rw [← r1]
        show jb_285_97 Q _ _ _ _ _ _ _ _ _ U = _
        unfold jb_285_97
        rw [if_neg (by omega), st]
        try dsimp only
        rw [sp_ck (by omega), sp_if (by rw [l27]; omega), sp_b, show (320 * (p : Int) + (t : Int)).toNat = 320 * p + t from by omega, e27, ← ex]
      · rcases r2 with ⟨y, y2⟩ | ⟨y, y2⟩
        · refine Or.inl ⟨y, y2.1.1, fun t' ht hn => ?_⟩
          rcases List.mem_cons.mp ht with w | w
          · rw [w] at hn ⊢
            exact y2.1.2 hn
          · exact y2.2 t' w hn
        · exact Or.inr ⟨y, fun z => y2 ⟨⟨z.1, z.2 t List.mem_cons_self⟩, fun t' ht hn => z.2 t' (List.mem_cons_of_mem _ ht) hn⟩⟩
end OPXZ
