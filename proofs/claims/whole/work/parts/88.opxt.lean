/-! RUNAWAY: the reference's marks of what can be just one sign -/
section OPXT
variable {Q k p N M m n g : Nat} {φ ψ own up : Nat → Nat} {S S0 T T0 U V : ev_St} {W : Nat → FV} {X : Nat → Int} {Mb : Nat → Prop} {Fv : Nat → Int} {a : Int}
/-- the mark of an item, by the mark of its atom -/
def JIv (p : Nat) (T0 : ev_St) (mk : Int) (t : Nat) : Int := if mk = 0 then 0 else if T0.1 630 (320 * p + t) = -1 then 1 else if T0.1 632 (320 * p + t) = 0 then 0 else if T0.1 631 (320 * p + t) < 2 then 1 else if T0.1 640 (320 * p + t) ≠ 0 then 0 else 1
theorem JIv_01 {mk : Int} {t : Nat} : JIv p T0 mk t = 0 ∨ JIv p T0 mk t = 1 := by
  unfold JIv
  (repeat' split) <;> omega
theorem sp_281 {t : Nat} (hp : p < 12) (ht : t < 320) (ha : AG0 p T0 U) : jm_281 Q ((320 * p + t : Nat) : Int) (t : Int) U = some (JIv p T0 (U.1 658 t) t, U) := by
  obtain ⟨l25, l26, l27, l28, _, l30, l31, l32, _⟩ := al_K
  obtain ⟨l40, _⟩ := al_F
  obtain ⟨l58, _⟩ := al658
  have e30 := ha.1 630 t (by omega) ht
  have e31 := ha.1 631 t (by omega) ht
  have e32 := ha.1 632 t (by omega) ht
  have e40 := ha.1 640 t (by omega) ht
  unfold jm_281 JIv
  rw [sp_if (by rw [l58]; omega), sp_b, Int.toNat_natCast, Int.toNat_natCast]
  by_cases y : U.1 658 t = 0
  · rw [if_pos y, if_pos y]
  · rw [if_neg y, if_neg y, sp_if (by rw [l30]; omega), sp_b, e30]
    by_cases y2 : T0.1 630 (320 * p + t) = -1
    · rw [if_pos y2, if_pos y2]
    · rw [if_neg y2, if_neg y2, sp_if (by rw [l32]; omega), sp_b, e32]
      by_cases y3 : T0.1 632 (320 * p + t) = 0
      · rw [if_pos y3, if_pos y3]
      · rw [if_neg y3, if_neg y3, sp_if (by rw [l31]; omega), sp_b, e31]
        by_cases y4 : T0.1 631 (320 * p + t) < 2
        · rw [if_pos y4, if_pos y4]
        · rw [if_neg y4, if_neg y4, sp_if (by rw [l40]; omega), sp_b, e40]
          by_cases y5 : T0.1 640 (320 * p + t) ≠ 0
          · rw [if_pos y5, if_pos y5]
          · rw [if_neg y5, if_neg y5]
abbrev kin (K : Int) : Prop := K = 8 ∨ K = 9 ∨ K = 10 ∨ K = 13
def stI (p : Nat) (T0 : ev_St) (K : Int) (Fv : Nat → Int) (s : Int × Int × Int) (t : Nat) : Int × Int × Int := (if s.1 ≠ 0 then 1 else if kin K ∧ JIv p T0 (Fv t) t ≠ 0 then 1 else 0, s.2.1 + (if T0.1 641 (320 * p + t) ≤ 0 then 0 else 1), ev_ior s.2.2 (if JIv p T0 (Fv t) t = 0 then 0 else if T0.1 641 (320 * p + t) ≤ 0 then 2 else 1))
def endI (K : Int) (s : Int × Int × Int) : Int := if K ≠ 18 then s.1 else if s.2.1 = 0 ∧ 0 < s.2.2 then 1 else if s.2.1 = 1 ∧ ev_iand s.2.2 1 = 1 then 1 else 0
theorem in280 {K16 : Int → Int → ev_St → Option (Unit × ev_St)} (hp : p < 12) (hX : mbX N X Mb) (hN : N ≤ 320) (hm : m < N) (ha : AG0 p T0 U) (hXT : ∀ t, Mb t → X t = T0.1 627 (320 * p + t)) (hMb : ∀ t, Mb t → m < t) (hf : ∀ t, m < t → t < N → U.1 658 t = Fv t) : ∀ (n b0 q : Nat) (c : Int) (s : Int × Int × Int), n < q → N ≤ b0 + n → mbc Mb b0 c → (s.1 = 0 ∨ s.1 = 1) → (0 ≤ s.2.1 ∧ s.2.1 + n ≤ 1000) → jl_280_80 Q a (320 * (p : Int)) (m : Int) (((320 * p + m : Nat) : Int)) K16 q s.1 s.2.1 s.2.2 c U = K16 (320 * (p : Int)) ((m : Int) - 1) (ev_pI U 658 m (endI (T0.1 625 (320 * p + m)) (chl X (stI p T0 (T0.1 625 (320 * p + m)) Fv) n c s))) := fun n => by
  obtain ⟨l25, l26, l27, l28, _, l30, l31, l32, _⟩ := al_K
  obtain ⟨_, l41, _, _⟩ := al_F
  obtain ⟨l58, _⟩ := al658
  have e25 := ha.1 625 m (by omega) (by omega)
  obtain ⟨K, hK⟩ : ∃ K, K = T0.1 625 (320 * p + m) := ⟨_, rfl⟩
  rw [← hK] at e25
  rw [← hK]
  have stop : ∀ (q : Nat) (s : Int × Int × Int), 0 < q → (s.1 = 0 ∨ s.1 = 1) → jl_280_80 Q a (320 * (p : Int)) (m : Int) (((320 * p + m : Nat) : Int)) K16 q s.1 s.2.1 s.2.2 (-1) U = K16 (320 * (p : Int)) ((m : Int) - 1) (ev_pI U 658 m (endI K s)) := fun q s hq hs => by
    obtain ⟨q, rfl⟩ : ∃ r, q = r + 1 := ⟨q - 1, by omega⟩
    obtain ⟨x41, h41⟩ : ∃ x41 : Int, x41 = if s.2.1 = 0 ∧ 0 < s.2.2 then 1 else if s.2.1 = 1 ∧ ev_iand s.2.2 1 = 1 then 1 else 0 := ⟨_, rfl⟩
    have b41 : ev_bl x41 := by
      rw [h41]
      (repeat' split) <;> first | exact Or.inl rfl | exact Or.inr rfl
    have tl : ∀ JJ : Int → ev_St → Option (Unit × ev_St), ev_jn JJ (fun K236 => ev_jn (fun (s71 : ev_St) => K236 1 s71) fun K231 => ev_jn (fun (s81 : ev_St) => ev_jn (fun (s89 : ev_St) => K236 0 s89) fun K235 => if s.2.1 ≠ 1 then (K235 s81) else (ev_b (ev_iand s.2.2 1) fun x91 => if x91 ≠ 1 then (K235 s81) else (K231 s81))) fun K217 => if s.2.1 ≠ 0 then (K217 U) else (if 0 < s.2.2 then (K231 U) else (K217 U))) = JJ x41 U := fun JJ => by
      rw [sp_jn, sp_jn, sp_jn, h41]
      by_cases y : s.2.1 ≠ 0
      · rw [if_pos y, if_neg (fun z => y z.1)]
        try dsimp only
        rw [sp_jn]
        by_cases y2 : s.2.1 ≠ 1
        · rw [if_pos y2, if_neg (fun z => y2 z.1)]
        · rw [if_neg y2, sp_b]
          by_cases y3 : ev_iand s.2.2 1 ≠ 1
          · rw [if_pos y3, if_neg (fun z => y3 z.2)]
          · rw [if_neg y3, if_pos ⟨by omega, by omega⟩]
      · rw [if_neg y]
        by_cases y2 : 0 < s.2.2
        · rw [if_pos y2, if_pos ⟨by omega, y2⟩]
        · rw [if_neg y2, if_neg (fun z => y2 z.2)]
          try dsimp only
          rw [sp_jn, if_pos (by omega), if_neg (fun z => y (by omega))]
    have hd : jl_280_80 Q a (320 * (p : Int)) (m : Int) (((320 * p + m : Nat) : Int)) K16 (q + 1) s.1 s.2.1 s.2.2 (-1) U = jb_280_80 Q a (320 * (p : Int)) (m : Int) (((320 * p + m : Nat) : Int)) K16 (jl_280_80 Q a (320 * (p : Int)) (m : Int) (((320 * p + m : Nat) : Int)) K16 q) s.1 s.2.1 s.2.2 (-1) U := rfl
    rw [hd]
    unfold jb_280_80
    rw [if_pos rfl, tl]
    try dsimp only
    rw [sp_if (by rw [l25]; omega), sp_b, Int.toNat_natCast, e25, sp_jn]
    unfold endI
    by_cases y : K ≠ 18
    · rw [if_pos y, if_pos y]
      try dsimp only
      rw [sp_if hs, sp_if (by rw [l58]; omega), sp_b, Int.toNat_natCast, sp_ck (by omega), show (m : Int) + -1 = (m : Int) - 1 from by omega]
    · rw [if_neg y, if_neg y, ← h41]
      try dsimp only
      rw [sp_if b41, sp_if (by rw [l58]; omega), sp_b, Int.toNat_natCast, sp_ck (by omega), show (m : Int) + -1 = (m : Int) - 1 from by omega]
  induction n with
  | zero =>
    intro b0 q c s hq hb hc h1 h2
    rcases hc with z | ⟨u, z, z1, z2⟩
    · rw [z]
      exact stop q s hq h1
    · have := (hX u z2).1
      omega
  | succ n ih =>
    intro b0 q c s hq hb hc h1 h2
    rcases hc with z | ⟨u, z, z1, z2⟩
    · rw [z]
      unfold chl
      rw [if_pos rfl]
      exact stop q s (by omega) h1
    · obtain ⟨q, rfl⟩ : ∃ r, q = r + 1 := ⟨q - 1, by omega⟩
      have uN := (hX u z2).1
      have mu := hMb u z2
      have e41 := ha.1 641 u (by omega) (by omega)
      have e27 := ha.1 627 u (by omega) (by omega)
      have hu := hf u mu uN
      have ex := hXT u z2
      unfold chl
      rw [z, if_neg (by omega), Int.toNat_natCast]
      obtain ⟨j, hj⟩ : ∃ j, j = JIv p T0 (Fv u) u := ⟨_, rfl⟩
      have j01 : j = 0 ∨ j = 1 := by
        rw [hj]
        exact JIv_01
      have j281 : jm_281 Q ((320 * p + u : Nat) : Int) (u : Int) U = some (j, U) := by
        rw [sp_281 hp (by omega) ha, hu, hj]
      obtain ⟨x25, h25⟩ : ∃ x25 : Int, x25 = if s.1 ≠ 0 then 1 else if kin K ∧ j ≠ 0 then 1 else 0 := ⟨_, rfl⟩
      obtain ⟨x15, h15⟩ : ∃ x15 : Int, x15 = if T0.1 641 (320 * p + u) ≤ 0 then 0 else 1 := ⟨_, rfl⟩
      obtain ⟨xb, hxb⟩ : ∃ xb : Int, xb = if j = 0 then 0 else if T0.1 641 (320 * p + u) ≤ 0 then 2 else 1 := ⟨_, rfl⟩
      have es : stI p T0 K Fv s u = (x25, s.2.1 + x15, ev_ior s.2.2 xb) := by
        unfold stI
        rw [h25, h15, hxb, hj]
      have b15 : 0 ≤ x15 ∧ x15 ≤ 1 := by
        rw [h15]
        split <;> omega
      have b25 : x25 = 0 ∨ x25 = 1 := by
        rw [h25]
        (repeat' split) <;> omega
      have st1 : ∀ JJ : Int → Int → ev_St → Option (Unit × ev_St), ev_jn JJ (fun K138 => ev_jn (fun (x149 : Int) (s160 : ev_St) => K138 x149 1 s160) fun K133 => if s.1 ≠ 0 then (K133 j U) else (ev_if ((0 : Int) ≤ ((320 * p + m : Nat) : Int) ∧ ((320 * p + m : Nat) : Int) < (ev_aln 625 : Int)) (ev_b (U.1 625 (Int.toNat ((320 * p + m : Nat) : Int))) fun x162 => ev_bd (jm_267 Q x162 U) fun x164 s163 => ev_jn (fun (s175 : ev_St) => K138 j 0 s175) fun K137 => ev_jn (fun (s186 : ev_St) => if j = 0 then (K137 s186) else (K133 j s186)) fun K128 => if x164 ≠ 0 then (K128 s163) else (ev_if ((0 : Int) ≤ ((320 * p + m : Nat) : Int) ∧ ((320 * p + m : Nat) : Int) < (ev_aln 625 : Int)) (ev_b (s163.1 625 (Int.toNat ((320 * p + m : Nat) : Int))) fun x189 => if x189 ≠ 13 then (K137 s163) else (K128 s163)))))) = JJ j x25 U := fun JJ => by
        rw [sp_jn, sp_jn, h25]
        by_cases y : s.1 ≠ 0
        · rw [if_pos y, if_pos y]
        · rw [if_neg y, if_neg y, sp_if (by rw [l25]; omega), sp_b, Int.toNat_natCast, e25, sp_267, sp_bd, sp_jn, sp_jn]
          have yes : kin K → (if j = 0 then JJ j 0 U else JJ j 1 U) = JJ j (if kin K ∧ j ≠ 0 then 1 else 0) U := fun w => by
            by_cases y2 : j = 0
            · rw [if_pos y2, if_neg (fun z => z.2 y2)]
            · rw [if_neg y2, if_pos ⟨w, y2⟩]
          by_cases y2 : K = 8 ∨ K = 9 ∨ K = 10
          · rw [if_pos y2, if_pos (by decide)]
            exact yes (by omega)
          · rw [if_neg y2, if_neg (fun w => w rfl), sp_if (by rw [l25]; omega), sp_b, e25]
            by_cases y3 : K = 13
            · rw [if_neg (fun w => w y3)]
              exact yes (by omega)
            · rw [if_pos y3, if_neg (fun z => by have := z.1; omega)]
      have st2 : ∀ JJ : Int → Int → Int → ev_St → Option (Unit × ev_St), ev_jn JJ (fun K159 => if U.1 641 (320 * p + u) ≤ 0 then (K159 x25 0 s.2.1 U) else (K159 x25 1 s.2.1 U)) = JJ x25 x15 s.2.1 U := fun JJ => by
        rw [sp_jn, h15, e41]
        by_cases y : T0.1 641 (320 * p + u) ≤ 0
        · rw [if_pos y, if_pos y]
        · rw [if_neg y, if_neg y]
      have st3 : ∀ JJ : Int → Int → Int → ev_St → Option (Unit × ev_St), ev_jn JJ (fun K190 => if j = 0 then (K190 (s.2.1 + x15) 0 s.2.2 U) else (ev_ck (320 * (p : Int) + (u : Int)) fun x145 => ev_if ((0 : Int) ≤ x145 ∧ x145 < (ev_aln 641 : Int)) (ev_b (U.1 641 (Int.toNat x145)) fun x146 => if x146 ≤ 0 then (K190 (s.2.1 + x15) 2 s.2.2 U) else (K190 (s.2.1 + x15) 1 s.2.2 U)))) = JJ (s.2.1 + x15) xb s.2.2 U := fun JJ => by
        rw [sp_jn, hxb]
        by_cases y : j = 0
        · rw [if_pos y, if_pos y]
        · rw [if_neg y, if_neg y, sp_ck (by omega), sp_if (by rw [l41]; omega), sp_b, show (320 * (p : Int) + (u : Int)).toNat = 320 * p + u from by omega, e41]
          by_cases y2 : T0.1 641 (320 * p + u) ≤ 0
          · rw [if_pos y2, if_pos y2]
          · rw [if_neg y2, if_neg y2]
      have r := ih (b0 + 1) q (X u) (x25, s.2.1 + x15, ev_ior s.2.2 xb) (by omega) (by omega) (mbc_n hX z2 z1) b25 ⟨by show 0 ≤ s.2.1 + x15; omega, by show s.2.1 + x15 + (n : Int) ≤ 1000; omega⟩
      rw [es, ← r]
      have hd : jl_280_80 Q a (320 * (p : Int)) (m : Int) (((320 * p + m : Nat) : Int)) K16 (q + 1) s.1 s.2.1 s.2.2 (u : Int) U = jb_280_80 Q a (320 * (p : Int)) (m : Int) (((320 * p + m : Nat) : Int)) K16 (jl_280_80 Q a (320 * (p : Int)) (m : Int) (((320 * p + m : Nat) : Int)) K16 q) s.1 s.2.1 s.2.2 (u : Int) U := rfl
      rw [hd]
      unfold jb_280_80
      rw [if_neg (show ¬ ((u : Int) = -1) by omega), sp_ck (by omega), show 320 * (p : Int) + (u : Int) = ((320 * p + u : Nat) : Int) from by omega, j281, sp_bd, st1]
      try dsimp only
      rw [sp_ck (by omega), sp_if (by rw [l41]; omega), sp_b, Int.toNat_natCast, st2]
      try dsimp only
      rw [show ((320 * p + u : Nat) : Int) = 320 * (p : Int) + (u : Int) from by omega, sp_ck (by omega), st3]
      try dsimp only
      rw [sp_b, sp_ck (by omega), sp_if (by rw [l27]; omega), sp_b, show (320 * (p : Int) + (u : Int)).toNat = 320 * p + u from by omega, e27, ← ex]
end OPXT
