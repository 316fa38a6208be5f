/-! BEGINS: the reference's marks are the class's first signs -/
section OPXQ
variable {Q k p N M m n g : Nat} {φ ψ own up : Nat → Nat} {S S0 T T0 U V : ev_St} {W : Nat → FV} {X : Nat → Int} {Mb F : Nat → Prop} {a : Int}
/-- a state that agrees on a pattern's tables and numbers -/
def AG0 (p : Nat) (T0 U : ev_St) : Prop := (∀ c m, (625 ≤ c ∧ c ≤ 632) ∨ (640 ≤ c ∧ c ≤ 643) → m < 320 → U.1 c (320 * p + m) = T0.1 c (320 * p + m)) ∧ (∀ c m, 633 ≤ c → c ≤ 634 → m < 320 → U.2.1 c (320 * p + m) = T0.2.1 c (320 * p + m)) ∧ U.1 635 p = T0.1 635 p
theorem AG0_of (h : AGR p T0 T) : AG0 p T0 T := ⟨fun c m h1 h2 => h.1 c _ h1 (by omega) (by omega), fun c m h1 h2 h3 => h.2.1 c _ h1 h2 (by omega) (by omega), h.2.2.1 635 (Or.inl rfl)⟩
theorem AG0_c (h : AG0 p T0 U) (h1 : ∀ c i, c ≤ 657 → ¬ (c = 621 ∧ i = 0) → V.1 c i = U.1 c i) (h2 : ∀ c i, c ≤ 657 → V.2.1 c i = U.2.1 c i) : AG0 p T0 V := ⟨fun c m y1 y2 => (h1 _ _ (by omega) (by omega)).trans (h.1 c m y1 y2), fun c m y1 y2 y3 => (h2 _ _ (by omega)).trans (h.2.1 c m y1 y2 y3), (h1 _ _ (by omega) (by omega)).trans h.2.2⟩
/-- one child more: a mark so far, and whether what lies ahead may be empty -/
def stp (p : Nat) (T0 : ev_St) (K : Int) (F : Nat → Prop) (s : Prop × Prop) (t : Nat) : Prop × Prop := (s.1 ∨ (((K = 18 ∧ s.2) ∨ (K ≠ 18 ∧ (K = 8 ∨ K = 9 ∨ K = 10 ∨ K = 13))) ∧ F t), s.2 ∧ T0.1 641 (320 * p + t) = 0)
abbrev tv (x : Int) (P : Prop) : Prop := (x = 1 ∧ P) ∨ (x = 0 ∧ ¬ P)
theorem al658 : ev_aln 658 = 320 ∧ ev_aln 659 = 320 := by decide +kernel
theorem in276 {K16 : Int → Int → ev_St → Option (Unit × ev_St)} (hp : p < 12) (hX : mbX N X Mb) (hN : N ≤ 320) (hm : m < N) (ha : AG0 p T0 U) (hXT : ∀ t, Mb t → X t = T0.1 627 (320 * p + t)) (hMb : ∀ t, Mb t → m < t) (hf : ∀ t, m < t → t < N → tv (U.1 658 t) (F t)) : ∀ (n b0 q : Nat) (c x25 x26 : Int) (s : Prop × Prop), n < q → N ≤ b0 + n → mbc Mb b0 c → tv x25 s.1 → tv x26 s.2 → ∃ v, jl_276_101 Q a (320 * (p : Int)) (m : Int) (((320 * p + m : Nat) : Int)) K16 q x25 x26 c U = K16 (320 * (p : Int)) ((m : Int) - 1) (ev_pI U 658 m v) ∧ tv v ((chl X (stp p T0 (T0.1 625 (320 * p + m)) F) n c s).1 ∧ (T0.1 630 (320 * p + m) = -1 ∨ T0.1 632 (320 * p + m) ≠ 0)) := fun n => by
  obtain ⟨l25, l26, l27, l28, _, l30, l31, l32, _⟩ := al_K
  obtain ⟨_, l41, _, _⟩ := al_F
  obtain ⟨l58, _⟩ := al658
  have stop : ∀ (q : Nat) (x25 x26 : Int) (s : Prop × Prop), 0 < q → tv x25 s.1 → ∃ v, jl_276_101 Q a (320 * (p : Int)) (m : Int) (((320 * p + m : Nat) : Int)) K16 q x25 x26 (-1) U = K16 (320 * (p : Int)) ((m : Int) - 1) (ev_pI U 658 m v) ∧ tv v (s.1 ∧ (T0.1 630 (320 * p + m) = -1 ∨ T0.1 632 (320 * p + m) ≠ 0)) := fun q x25 x26 s hq hs => by
    obtain ⟨q, rfl⟩ : ∃ r, q = r + 1 := ⟨q - 1, by omega⟩
    have fin : ∀ v : Int, v = 0 ∨ v = 1 → (ev_if (ev_bl v) (ev_if ((0 : Int) ≤ (m : Int) ∧ (m : Int) < (ev_aln 658 : Int)) (ev_b (ev_pI U 658 (Int.toNat (m : Int)) v) fun s48 => ev_ck ((m : Int) + (-1)) fun x50 => K16 (320 * (p : Int)) x50 s48))) = K16 (320 * (p : Int)) ((m : Int) - 1) (ev_pI U 658 m v) := fun v hv => by
      rw [sp_if hv, sp_if (by rw [l58]; omega), sp_b, Int.toNat_natCast, sp_ck (by omega), show (m : Int) + -1 = (m : Int) - 1 from by omega]
    have e30 := ha.1 630 m (by omega) (by omega)
    have e32 := ha.1 632 m (by omega) (by omega)
    have hd : jl_276_101 Q a (320 * (p : Int)) (m : Int) (((320 * p + m : Nat) : Int)) K16 (q + 1) x25 x26 (-1) U = jb_276_101 Q a (320 * (p : Int)) (m : Int) (((320 * p + m : Nat) : Int)) K16 (jl_276_101 Q a (320 * (p : Int)) (m : Int) (((320 * p + m : Nat) : Int)) K16 q) x25 x26 (-1) U := rfl
    rw [hd]
    unfold jb_276_101
    rw [if_pos rfl, sp_jn, sp_jn]
    rcases hs with ⟨y, y2⟩ | ⟨y, y2⟩
    · rw [if_neg (by omega), sp_if (by rw [l30]; omega), sp_b, Int.toNat_natCast, e30, sp_jn]
      by_cases r : T0.1 630 (320 * p + m) = -1
      · rw [if_pos r]
        try dsimp only
        exact ⟨1, fin 1 (Or.inr rfl), Or.inl ⟨rfl, y2, Or.inl r⟩⟩
      · rw [if_neg r, sp_if (by rw [l32]; omega), sp_b, e32]
        by_cases z : T0.1 632 (320 * p + m) = 0
        · rw [if_pos z]
          try dsimp only
          exact ⟨0, fin 0 (Or.inl rfl), Or.inr ⟨rfl, fun w => by rcases w.2 with w | w; exact r w; exact w z⟩⟩
        · rw [if_neg z]
          try dsimp only
          exact ⟨1, fin 1 (Or.inr rfl), Or.inl ⟨rfl, y2, Or.inr z⟩⟩
    · rw [if_pos (by omega)]
      try dsimp only
      exact ⟨0, fin 0 (Or.inl rfl), Or.inr ⟨rfl, fun w => y2 w.1⟩⟩
  induction n with
  | zero =>
    intro b0 q c x25 x26 s hq hb hc h1 h2
    rcases hc with z | ⟨u, z, z1, z2⟩
    · rw [z]
      exact stop q x25 x26 s hq h1
    · have := (hX u z2).1
      omega
  | succ n ih =>
    intro b0 q c x25 x26 s hq hb hc h1 h2
    rcases hc with z | ⟨u, z, z1, z2⟩
    · rw [z]
      unfold chl
      rw [if_pos rfl]
      exact stop q x25 x26 s (by omega) h1
    · obtain ⟨q, rfl⟩ : ∃ r, q = r + 1 := ⟨q - 1, by omega⟩
      have uN := (hX u z2).1
      have mu := hMb u z2
      have e25 := ha.1 625 m (by omega) (by omega)
      have e41 := ha.1 641 u (by omega) (by omega)
      have e27 := ha.1 627 u (by omega) (by omega)
      have hu := hf u mu uN
      have ex := hXT u z2
      unfold chl
      rw [z, if_neg (by omega), Int.toNat_natCast]
      obtain ⟨K, hK⟩ : ∃ K, K = T0.1 625 (320 * p + m) := ⟨_, rfl⟩
      rw [← hK] at e25 ⊢
      obtain ⟨x73, h73⟩ : ∃ x73 : Int, x73 = if K = 18 then x26 else if K = 8 ∨ K = 9 ∨ K = 10 ∨ K = 13 then 1 else 0 := ⟨_, rfl⟩
      have t73 : tv x73 ((K = 18 ∧ s.2) ∨ (K ≠ 18 ∧ (K = 8 ∨ K = 9 ∨ K = 10 ∨ K = 13))) := by
        by_cases y : K = 18
        · rw [if_pos y] at h73
          rw [h73]
          rcases h2 with ⟨w, w2⟩ | ⟨w, w2⟩
          · exact Or.inl ⟨w, Or.inl ⟨y, w2⟩⟩
          · exact Or.inr ⟨w, fun v => by rcases v with v | v; exact w2 v.2; exact v.1 y⟩
        · rw [if_neg y] at h73
          by_cases y2 : K = 8 ∨ K = 9 ∨ K = 10 ∨ K = 13
          · rw [if_pos y2] at h73
            exact Or.inl ⟨h73, Or.inr ⟨y, y2⟩⟩
          · rw [if_neg y2] at h73
            exact Or.inr ⟨h73, fun v => by rcases v with v | v; exact y v.1; exact y2 v.2⟩
      have st1 : ∀ JJ : Int → ev_St → Option (Unit × ev_St), ev_jn JJ (fun K154 => if U.1 625 (Int.toNat ((320 * p + m : Nat) : Int)) ≠ 18 then (ev_if ((0 : Int) ≤ ((320 * p + m : Nat) : Int) ∧ ((320 * p + m : Nat) : Int) < (ev_aln 625 : Int)) (ev_b (U.1 625 (Int.toNat ((320 * p + m : Nat) : Int))) fun x144 => ev_bd (jm_267 Q x144 U) fun x146 s145 => ev_jn (fun (s156 : ev_St) => K154 1 s156) fun K149 => if x146 ≠ 0 then (K149 s145) else (ev_if ((0 : Int) ≤ ((320 * p + m : Nat) : Int) ∧ ((320 * p + m : Nat) : Int) < (ev_aln 625 : Int)) (ev_b (s145.1 625 (Int.toNat ((320 * p + m : Nat) : Int))) fun x158 => if x158 ≠ 13 then (K154 0 s145) else (K149 s145))))) else (K154 x26 U)) = JJ x73 U := fun JJ => by
        rw [sp_jn, Int.toNat_natCast, e25]
        by_cases y : K = 18
        · rw [if_neg (fun w => w y), h73, if_pos y]
        · rw [if_pos y, sp_if (by rw [l25]; omega), sp_b, sp_267, sp_bd, sp_jn, h73, if_neg y]
          by_cases y2 : K = 8 ∨ K = 9 ∨ K = 10
          · rw [if_pos y2, if_pos (by decide), if_pos (by omega)]
          · rw [if_neg y2, if_neg (fun w => w rfl), sp_if (by rw [l25]; omega), sp_b, e25]
            by_cases y3 : K = 13
            · rw [if_neg (fun w => w y3), if_pos (by omega)]
            · rw [if_pos y3, if_neg (by omega)]
      obtain ⟨x84, h84⟩ : ∃ x84 : Int, x84 = if x25 ≠ 0 then 1 else if x73 = 0 then 0 else if U.1 658 u = 0 then 0 else 1 := ⟨_, rfl⟩
      have t84 : tv x84 (stp p T0 K F s u).1 := by
        show tv x84 (s.1 ∨ (((K = 18 ∧ s.2) ∨ (K ≠ 18 ∧ (K = 8 ∨ K = 9 ∨ K = 10 ∨ K = 13))) ∧ F u))
        rcases h1 with ⟨w, w2⟩ | ⟨w, w2⟩
        · rw [if_pos (by omega)] at h84
          exact Or.inl ⟨h84, Or.inl w2⟩
        · rw [if_neg (by omega)] at h84
          rcases t73 with ⟨v, v2⟩ | ⟨v, v2⟩
          · rw [if_neg (by omega)] at h84
            rcases hu with ⟨i, i2⟩ | ⟨i, i2⟩
            · rw [if_neg (by omega)] at h84
              exact Or.inl ⟨h84, Or.inr ⟨v2, i2⟩⟩
            · rw [if_pos i] at h84
              exact Or.inr ⟨h84, fun o => by rcases o with o | o; exact w2 o; exact i2 o.2⟩
          · rw [if_pos v] at h84
            exact Or.inr ⟨h84, fun o => by rcases o with o | o; exact w2 o; exact v2 o.1⟩
      have st2 : ∀ JJ : Int → ev_St → Option (Unit × ev_St), ev_jn JJ (fun K181 => ev_jn (fun (s129 : ev_St) => K181 1 s129) fun K176 => if x25 ≠ 0 then (K176 U) else (ev_jn (fun (s139 : ev_St) => K181 0 s139) fun K180 => if x73 = 0 then (K180 U) else (ev_if ((0 : Int) ≤ (u : Int) ∧ (u : Int) < (ev_aln 658 : Int)) (ev_b (U.1 658 (Int.toNat (u : Int))) fun x141 => if x141 = 0 then (K180 U) else (K176 U))))) = JJ x84 U := fun JJ => by
        rw [sp_jn, sp_jn, h84]
        by_cases y : x25 ≠ 0
        · rw [if_pos y, if_pos y]
        · rw [if_neg y, if_neg y, sp_jn]
          by_cases y2 : x73 = 0
          · rw [if_pos y2, if_pos y2]
          · rw [if_neg y2, if_neg y2, sp_if (by rw [l58]; omega), sp_b, Int.toNat_natCast]
            by_cases y3 : U.1 658 u = 0
            · rw [if_pos y3, if_pos y3]
            · rw [if_neg y3, if_neg y3]
      obtain ⟨x95, h95⟩ : ∃ x95 : Int, x95 = if x26 = 0 then 0 else if T0.1 641 (320 * p + u) ≠ 0 then 0 else 1 := ⟨_, rfl⟩
      have t95 : tv x95 (stp p T0 K F s u).2 := by
        show tv x95 (s.2 ∧ T0.1 641 (320 * p + u) = 0)
        rcases h2 with ⟨w, w2⟩ | ⟨w, w2⟩
        · rw [if_neg (by omega)] at h95
          by_cases y : T0.1 641 (320 * p + u) = 0
          · rw [if_neg (fun v => v y)] at h95
            exact Or.inl ⟨h95, w2, y⟩
          · rw [if_pos y] at h95
            exact Or.inr ⟨h95, fun v => y v.2⟩
        · rw [if_pos w] at h95
          exact Or.inr ⟨h95, fun v => w2 v.1⟩
      have st3 : ∀ JJ : Int → Int → ev_St → Option (Unit × ev_St), ev_jn JJ (fun K205 => ev_jn (fun (x107 : Int) (s116 : ev_St) => K205 x107 0 s116) fun K204 => if x26 = 0 then (K204 x84 U) else (ev_ck (320 * (p : Int) + (u : Int)) fun x118 => ev_if ((0 : Int) ≤ x118 ∧ x118 < (ev_aln 641 : Int)) (ev_b (U.1 641 (Int.toNat x118)) fun x119 => if x119 ≠ 0 then (K204 x84 U) else (K205 x84 1 U)))) = JJ x84 x95 U := fun JJ => by
        rw [sp_jn, sp_jn, h95]
        by_cases y : x26 = 0
        · rw [if_pos y, if_pos y]
        · rw [if_neg y, if_neg y, sp_ck (by omega), sp_if (by rw [l41]; omega), sp_b, show (320 * (p : Int) + (u : Int)).toNat = 320 * p + u from by omega, e41]
          by_cases y2 : T0.1 641 (320 * p + u) ≠ 0
          · rw [if_pos y2, if_pos y2]
          · rw [if_neg y2, if_neg y2]
      obtain ⟨v, r1, r2⟩ := ih (b0 + 1) q (X u) x84 x95 (stp p T0 K F s u) (by omega) (by omega) (mbc_n hX z2 z1) t84 t95
      rw [← hK] at r2
      refine ⟨v, ?_, r2⟩
      rw [← r1]
      have hd : jl_276_101 Q a (320 * (p : Int)) (m : Int) (((320 * p + m : Nat) : Int)) K16 (q + 1) x25 x26 (u : Int) U = jb_276_101 Q a (320 * (p : Int)) (m : Int) (((320 * p + m : Nat) : Int)) K16 (jl_276_101 Q a (320 * (p : Int)) (m : Int) (((320 * p + m : Nat) : Int)) K16 q) x25 x26 (u : Int) U := rfl
      rw [hd]
      unfold jb_276_101
      rw [if_neg (show ¬ ((u : Int) = -1) by omega), sp_if (by rw [l25]; omega), sp_b, st1]
      try dsimp only
      rw [st2]
      try dsimp only
      rw [st3]
      try dsimp only
      rw [sp_ck (by omega), sp_if (by rw [l27]; omega), sp_b, show (320 * (p : Int) + (u : Int)).toNat = 320 * p + u from by omega, e27, ← ex]
end OPXQ
