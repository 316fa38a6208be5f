/-! SEARCH: reads of both machines, in one step each -/
section OPZG
variable {Q k p N M m n n2 h h2 us us2 vs vs2 ls ls2 w len x0 x y u v g a b j : Nat} {C : Int} {φ ψ own up lo : Nat → Nat} {S S1 S2 T T1 T2 U : ev_St} {V : Nat → Nat → Nat → List KT → Nat → Int} {ks : List KT} {κ : KT} {β : Type}
/-- a cell of the class's pattern -/
theorem rdk (hA : STA k p N M φ ψ own up lo U) (hB : BAS k p U w len S T) (hb : b < M) (hj : 1 ≤ j ∧ j ≤ 9) (K : Int → Option β) : (ev_b (S.2.2.1 281 0) fun r => ev_if (r ≠ 0) (ev_if ((0 : Int) ≤ (b : Int) ∧ (b : Int) < (ev_aln ((r - 1) + j) : Int)) (ev_b (S.1 ((r - 1) + j) (Int.toNat (b : Int))) K))) = K (U.1 (k + j) b) := by
  have hM := (sa_num hA).1.2.2
  have al := al_k hA
  have l : ev_aln (k + j) = 400 := by
    obtain rfl | rfl | rfl | rfl | rfl | rfl | rfl | rfl | rfl : j = 1 ∨ j = 2 ∨ j = 3 ∨ j = 4 ∨ j = 5 ∨ j = 6 ∨ j = 7 ∨ j = 8 ∨ j = 9 := by omega
    · exact al.1
    · exact al.2.1
    · exact al.2.2.1
    · exact al.2.2.2.1
    · exact al.2.2.2.2.1
    · exact al.2.2.2.2.2.1
    · exact al.2.2.2.2.2.2.1
    · exact al.2.2.2.2.2.2.2.1
    · exact al.2.2.2.2.2.2.2.2.1
  rw [sp_b, hB.2.2.1.1, sp_if (by omega), show k + 1 - 1 = k from rfl, l, sp_if (by omega), sp_b, Int.toNat_natCast, (cl_k hA hB).1 j b (by omega)]
theorem rdkL (hA : STA k p N M φ ψ own up lo U) (hB : BAS k p U w len S T) (hb : b < M) (hj : j = 8 ∨ j = 9) (K : Int64 → Option β) : (ev_b (S.2.2.1 281 0) fun r => ev_if (r ≠ 0) (ev_if ((0 : Int) ≤ (b : Int) ∧ (b : Int) < (ev_aln ((r - 1) + j) : Int)) (ev_b (S.2.1 ((r - 1) + j) (Int.toNat (b : Int))) K))) = K (U.2.1 (k + j) b) := by
  have hM := (sa_num hA).1.2.2
  have al := al_k hA
  have l : ev_aln (k + j) = 400 := by
    rcases hj with rfl | rfl
    · exact al.2.2.2.2.2.2.2.1
    · exact al.2.2.2.2.2.2.2.2.1
  rw [sp_b, hB.2.2.1.1, sp_if (by omega), show k + 1 - 1 = k from rfl, l, sp_if (by omega), sp_b, Int.toNat_natCast, (cl_k hA hB).2.1 j b (by omega)]
/-- whether that is a node -/
theorem rdn (hA : STA k p N M φ ψ own up lo U) (hB : BAS k p U w len S T) (hb : b < M) (K : Int → ev_St → Option β) : (ev_b (S.2.2.1 281 0) fun r => ev_if (r ≠ 0) (ev_bd (jm_59 Q (r - 1) (b : Int) S) K)) = K 1 S := by
  rw [sp_b, hB.2.2.1.1, sp_if (by omega), show k + 1 - 1 = k from rfl, c59 hA hB hb, sp_bd]
/-- a cell of a frame of the class -/
theorem rdc0 (hu : u + 4 ≤ 76072) (K : Int → Option β) : (ev_if ((0 : Int) ≤ (u : Int) ∧ (u : Int) < (ev_aln 282 : Int)) (ev_b (S.1 282 (Int.toNat (u : Int))) K)) = K (S.1 282 u) := by
  rw [al_Sc.1, sp_if (by omega), sp_b, Int.toNat_natCast]
theorem rdc1 (hu : u + 4 ≤ 76072) (K : Int → Option β) : (ev_ck ((u : Int) + 1) fun x5 => ev_if ((0 : Int) ≤ x5 ∧ x5 < (ev_aln 282 : Int)) (ev_b (S.1 282 (Int.toNat x5)) K)) = K (S.1 282 (u + 1)) := by
  rw [sp_ck (by omega), al_Sc.1, sp_if (by omega), sp_b, show Int.toNat ((u : Int) + 1) = u + 1 from by omega]
theorem rdc2 (hu : u + 4 ≤ 76072) (K : Int → Option β) : (ev_ck ((u : Int) + 2) fun x5 => ev_if ((0 : Int) ≤ x5 ∧ x5 < (ev_aln 282 : Int)) (ev_b (S.1 282 (Int.toNat x5)) K)) = K (S.1 282 (u + 2)) := by
  rw [sp_ck (by omega), al_Sc.1, sp_if (by omega), sp_b, show Int.toNat ((u : Int) + 2) = u + 2 from by omega]
theorem rdc3 (hu : u + 4 ≤ 76072) (K : Int → Option β) : (ev_ck ((u : Int) + 3) fun x5 => ev_if ((0 : Int) ≤ x5 ∧ x5 < (ev_aln 282 : Int)) (ev_b (S.1 282 (Int.toNat x5)) K)) = K (S.1 282 (u + 3)) := by
  rw [sp_ck (by omega), al_Sc.1, sp_if (by omega), sp_b, show Int.toNat ((u : Int) + 3) = u + 3 from by omega]
/-- a place of the reference's tables -/
theorem rdT {c : Nat} (hA : STA k p N M φ ψ own up lo U) (hB : BAS k p U w len S T) (hm : m < N) (hc : 625 ≤ c ∧ c ≤ 632) (K : Int → Option β) : (ev_if ((0 : Int) ≤ ((320 * p + m : Nat) : Int) ∧ ((320 * p + m : Nat) : Int) < (ev_aln c : Int)) (ev_b (T.1 c (Int.toNat ((320 * p + m : Nat) : Int))) K)) = K (U.1 c (320 * p + m)) := by
  have hN := (sa_num hA).1
  have hp := hA.2.2.1
  have l : ev_aln c = 4160 := by
    have al := al_rp
    obtain rfl | rfl | rfl | rfl | rfl | rfl | rfl | rfl : c = 625 ∨ c = 626 ∨ c = 627 ∨ c = 628 ∨ c = 629 ∨ c = 630 ∨ c = 631 ∨ c = 632 := by omega
    · exact al.1
    · exact al.2.1
    · exact al.2.2.1
    · exact al.2.2.2.1
    · exact al.2.2.2.2.1
    · exact al.2.2.2.2.2.1
    · exact al.2.2.2.2.2.2.1
    · exact al.2.2.2.2.2.2.2.1
  rw [l, sp_if (by omega), sp_b, Int.toNat_natCast, (cl_k hA hB).2.2.1 c m hc.1 hc.2]
/-- a place of the reference's frames, choices -/
theorem rdf {c : Nat} (hc : 681 ≤ c ∧ c ≤ 686) (hv : v < 150000) (K : Int → Option β) : (ev_if ((0 : Int) ≤ (v : Int) ∧ (v : Int) < (ev_aln c : Int)) (ev_b (T.1 c (Int.toNat (v : Int))) K)) = K (T.1 c v) := by
  have l : ev_aln c = 150000 := by
    have al := al_Sr
    obtain rfl | rfl | rfl | rfl | rfl | rfl : c = 681 ∨ c = 682 ∨ c = 683 ∨ c = 684 ∨ c = 685 ∨ c = 686 := by omega
    · exact al.1
    · exact al.2.1
    · exact al.2.2.1
    · exact al.2.2.2.1
    · exact al.2.2.2.2.1
    · exact al.2.2.2.2.2
  rw [l, sp_if (by omega), sp_b, Int.toNat_natCast]
theorem rdh {c : Nat} (hc : 687 ≤ c ∧ c ≤ 695) (hv : v < 100000) (K : Int → Option β) : (ev_if ((0 : Int) ≤ (v : Int) ∧ (v : Int) < (ev_aln c : Int)) (ev_b (T.1 c (Int.toNat (v : Int))) K)) = K (T.1 c v) := by
  have l : ev_aln c = 100000 := by
    have al := al_Sk
    obtain rfl | rfl | rfl | rfl | rfl | rfl | rfl | rfl | rfl : c = 687 ∨ c = 688 ∨ c = 689 ∨ c = 690 ∨ c = 691 ∨ c = 692 ∨ c = 693 ∨ c = 694 ∨ c = 695 := by omega
    · exact al.1
    · exact al.2.1
    · exact al.2.2.1
    · exact al.2.2.2.1
    · exact al.2.2.2.2.1
    · exact al.2.2.2.2.2.1
    · exact al.2.2.2.2.2.2.1
    · exact al.2.2.2.2.2.2.2.1
    · exact al.2.2.2.2.2.2.2.2
  rw [l, sp_if (by omega), sp_b, Int.toNat_natCast]
-- what a frame says by its kind
theorem wk_1 (q : WFK k p N φ ψ up U len n κ ks) (e : κ.1 = 1) : κ.2.1 < N ∧ κ.2.1 ≠ 0 ∧ U.1 625 (320 * p + κ.2.1) ≠ 18 ∧ cOf k p φ ψ U ks = 4 * (φ (up (up κ.2.1)) : Int) + 1 := by
  obtain ⟨h1, h2⟩ := q
  rcases h2 with y | y | y | y | y | y | y | y | y <;> first | exact ⟨h1, y.2⟩ | exact absurd y.1 (by omega)
theorem wk_2 (q : WFK k p N φ ψ up U len n κ ks) (e : κ.1 = 2) : κ.2.1 < N ∧ U.1 625 (320 * p + κ.2.1) = 8 ∧ cOf k p φ ψ U ks = U.1 (k + 7) (φ κ.2.1) ∧ κ.2.2.1 ≤ len := by
  obtain ⟨h1, h2⟩ := q
  rcases h2 with y | y | y | y | y | y | y | y | y <;> first | exact ⟨h1, y.2⟩ | exact absurd y.1 (by omega)
theorem wk_3 (q : WFK k p N φ ψ up U len n κ ks) (e : κ.1 = 3) : κ.2.1 < N ∧ U.1 630 (320 * p + κ.2.1) ≠ -1 ∧ cOf k p φ ψ U ks = U.1 (k + 7) (bt k p ψ U κ.2.1) ∧ κ.2.2.1 + 1 ≤ n ∧ κ.2.2.2 ≤ len := by
  obtain ⟨h1, h2⟩ := q
  rcases h2 with y | y | y | y | y | y | y | y | y <;> first | exact ⟨h1, y.2⟩ | exact absurd y.1 (by omega)
theorem wk_4 (q : WFK k p N φ ψ up U len n κ ks) (e : κ.1 = 4) : κ.2.1 < N ∧ (κ.2.1 = 0 ∨ U.1 625 (320 * p + κ.2.1) = 8) := by
  obtain ⟨h1, h2⟩ := q
  rcases h2 with y | y | y | y | y | y | y | y | y <;> first | exact ⟨h1, y.2⟩ | exact absurd y.1 (by omega)
theorem wk_5 (q : WFK k p N φ ψ up U len n κ ks) (e : κ.1 = 5) : κ.2.1 < N ∧ U.1 625 (320 * p + κ.2.1) = 10 ∧ cOf k p φ ψ U ks = U.1 (k + 7) (φ κ.2.1) ∧ κ.2.2.1 ≤ len := by
  obtain ⟨h1, h2⟩ := q
  rcases h2 with y | y | y | y | y | y | y | y | y
  · exact absurd y.1 (by omega)
  · exact absurd y.1 (by omega)
  · exact absurd y.1 (by omega)
  · exact absurd y.1 (by omega)
  · exact ⟨h1, y.2⟩
  · exact absurd y.1 (by omega)
  · exact absurd y.1 (by omega)
  · exact absurd y.1 (by omega)
  · exact absurd y.1 (by omega)
theorem wk_6 (q : WFK k p N φ ψ up U len n κ ks) (e : κ.1 = 6) : κ.2.1 < N ∧ U.1 625 (320 * p + κ.2.1) = 11 ∧ cOf k p φ ψ U ks = U.1 (k + 7) (φ κ.2.1) ∧ κ.2.2.1 ≤ len := by
  obtain ⟨h1, h2⟩ := q
  rcases h2 with y | y | y | y | y | y | y | y | y <;> first | exact absurd y.1 (by omega) | exact ⟨h1, y.2⟩
theorem wk_7 (q : WFK k p N φ ψ up U len n κ ks) (e : κ.1 = 7) : κ.2.1 < N ∧ U.1 625 (320 * p + κ.2.1) = 12 ∧ cOf k p φ ψ U ks = U.1 (k + 7) (φ κ.2.1) ∧ κ.2.2.1 ≤ len := by
  obtain ⟨h1, h2⟩ := q
  rcases h2 with y | y | y | y | y | y | y | y | y <;> first | exact absurd y.1 (by omega) | exact ⟨h1, y.2⟩
theorem wk_8 (q : WFK k p N φ ψ up U len n κ ks) (e : κ.1 = 8) : κ.2.1 < N ∧ κ.2.1 ≠ 0 ∧ (U.1 625 (320 * p + κ.2.1) = 9 ∨ U.1 625 (320 * p + κ.2.1) = 13) ∧ cOf k p φ ψ U ks = U.1 (k + 7) (φ κ.2.1) := by
  obtain ⟨h1, h2⟩ := q
  rcases h2 with y | y | y | y | y | y | y | y | y <;> first | exact absurd y.1 (by omega) | exact ⟨h1, y.2⟩
theorem wk_9 (q : WFK k p N φ ψ up U len n κ ks) (e : κ.1 = 9) : κ.2.1 < N ∧ U.1 630 (320 * p + κ.2.1) = 2 ∧ cOf k p φ ψ U ks = U.1 (k + 7) (ψ κ.2.1) ∧ κ.2.2.1 ≤ len := by
  obtain ⟨h1, h2⟩ := q
  rcases h2 with y | y | y | y | y | y | y | y | y <;> first | exact absurd y.1 (by omega) | exact ⟨h1, y.2⟩
theorem ch_8 {f t : Int} (q : CH k p φ ψ U S T us vs ls h (κ :: ks) f t) (e : κ.1 = 8) : CH k p φ ψ U S T us vs ls h ks f t := by
  rcases q with y | ⟨v, y1, y2, y3, y | ⟨u, z1, z2, z3, z4, z5⟩⟩
  · exact y.2
  · exact absurd y.1 (by omega)
  · rcases z4 with z | z | z | z <;> exact absurd z.1 (by omega)
theorem ch_1 {f t : Int} (q : CH k p φ ψ U S T us vs ls h (κ :: ks) f t) (e : κ.1 = 1) : ∃ v : Nat, t = (v : Int) ∧ v < vs ∧ T.1 686 v = ((dOf ks + 64 * lOf ks : Nat) : Int) ∧ T.1 681 v = 1 ∧ T.1 682 v = ((320 * p + κ.2.1 : Nat) : Int) ∧ CH k p φ ψ U S T us vs ls h ks f (T.1 685 v) := by
  rcases q with y | ⟨v, y1, y2, y3, y | ⟨u, z1, z2, z3, z4, z5⟩⟩
  · exact absurd y.1 (by omega)
  · exact ⟨v, y1, y2, y3, y.2⟩
  · rcases z4 with z | z | z | z <;> exact absurd z.1 (by omega)
theorem ch_f {f t : Int} (q : CH k p φ ψ U S T us vs ls h (κ :: ks) f t) (e : κ.1 ≠ 1 ∧ κ.1 ≠ 8) : ∃ v u : Nat, t = (v : Int) ∧ v < vs ∧ T.1 686 v = ((dOf ks + 64 * lOf ks : Nat) : Int) ∧ f = (u : Int) ∧ u + 4 ≤ us ∧ S.1 282 (u + 1) = ((256 * lOf (κ :: ks) + 8 * dOf (κ :: ks) + tagK κ : Nat) : Int) ∧ CHF k p φ ψ U S T us ls h κ ks u v ∧ CH k p φ ψ U S T us vs ls (hK h κ) ks (S.1 282 u) (T.1 685 v) := by
  rcases q with y | ⟨v, y1, y2, y3, y | ⟨u, z1, z2, z3, z4, z5⟩⟩
  · exact absurd y.1 (by omega)
  · exact absurd y.1 (by omega)
  · exact ⟨v, u, y1, y2, y3, z1, z2, z3, z4, z5⟩
theorem ks_d : dOf (κ :: ks) = dOf ks + (if κ.1 = 4 then 1 else 0) := rfl
theorem ks_l : lOf (κ :: ks) = lOf ks + (if κ.1 = 5 ∨ κ.1 = 6 ∨ κ.1 = 7 ∨ κ.1 = 9 then 1 else 0) := rfl
theorem ks_r : rkOf (κ :: ks) = rkOf ks + (if κ.1 = 3 then 1 else 0) := rfl
theorem ks_z : zsOf k p N φ ψ own lo U (κ :: ks) = zsOf k p N φ ψ own lo U ks + (if κ.1 = 3 then 1 + pcL p N φ lo U (pL lo N (bt k p ψ U κ.2.1)) else if κ.1 = 4 then pcL p N φ lo U (posC own lo N (cOf k p φ ψ U ks)) else 0) := rfl
theorem ks_c : cOf k p φ ψ U (κ :: ks) = if κ.1 = 1 then 4 * (ψ κ.2.1 : Int) else if κ.1 = 3 then 4 * (bt k p ψ U κ.2.1 : Int) + 1 else if κ.1 = 9 then 4 * (ψ κ.2.1 : Int) + 1 else 4 * (φ κ.2.1 : Int) + 1 := rfl
theorem ks_o : okp x0 (κ :: ks) x = if κ.1 = 6 ∨ κ.1 = 7 then okp x0 ks κ.2.2.1 else ((κ.1 = 2 → κ.2.2.1 ≤ x) ∧ okp x0 ks x) := rfl
/-- how far cells, frames, choices can go -/
theorem bnS (hP : POT p N U len V) (hC : C ≤ 980) {c td vv : Int} (h0 : 0 ≤ vv) (q : RLC k p N φ ψ own up lo U w len x0 C V S T ks x n us h vs ls c td a vv) : us + 4 ≤ 76072 + 4 ∧ us ≤ 76072 ∧ vs < 150000 ∧ ls ≤ 19018 ∧ h ≤ 1000 ∧ (n < 1000 → us + 76 ≤ 76072) := by
  obtain ⟨⟨hB, ⟨s3, s7, s9, s10, s14, s11⟩, ⟨t75, t76, t81, t84, t88, t95, t105⟩, ⟨b1, b2, b3, b4, b5, b6, b7⟩, hW, hC, ⟨ng, g1, g2⟩, hcp⟩, c2, t78, p1, p2⟩ := q
  omega
end OPZG
