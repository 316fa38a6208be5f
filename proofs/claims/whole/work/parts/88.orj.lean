/-! STREAMS: the reference's threads go on past a character -/
section ORJ
variable {Q p s n len k m o : Nat} {S U V W : ev_St} {P : Nat → T3} {X : Nat → SNs} {A : SNs} {c : CPs} {out ls : LFs}
abbrev OQRrs (S : ev_St) (f : Nat) (v : Int) : Int := rs (S.2.1 633 f) (S.2.1 634 f) v
/-- what stands fixed of a stream, on the reference's side -/
def RSq7 (p s n len : Nat) (P : Nat → T3) (X : Nat → SNs) (S : ev_St) : Prop := (∀ i, i < n → rd3 662 663 664 (210 * p + i) S (P i)) ∧ (wfP P n ∧ 0 < n ∧ n ≤ 210 ∧ p < 12 ∧ s < 4) ∧ (∀ i, i < n → (P i).1 ≠ 1) ∧ (S.1 718 s = (p : Int) ∧ S.1 721 s = (len : Int) ∧ len ≤ 80) ∧ (∀ j, j < len → sp_sign (S.1 722 (80 * s + j)) = 1) ∧ (∀ i, i < n → (P i).1 = 0 → 0 ≤ (P i).2.1 ∧ (P i).2.1 < 4160) ∧ ∀ x i, x ≤ len → i < n → (P i).1 = 0 → (X x i = true ↔ (x < len ∧ OQRrs S (P i).2.1.toNat (S.1 722 (80 * s + x)) ≠ 0))
def FRq7 (U V : ev_St) : Prop := (∀ c i, ¬ (c = 621 ∧ i = 68) → ¬ (669 ≤ c ∧ c ≤ 670) → ¬ (674 ≤ c ∧ c ≤ 677) → V.1 c i = U.1 c i) ∧ V.2 = U.2
theorem FRq7_r : FRq7 S S := ⟨fun _ _ _ _ _ => rfl, rfl⟩
theorem FRq7_t (h : FRq7 S U) (h2 : FRq7 U V) : FRq7 S V := ⟨fun x i a b c => (h2.1 x i a b c).trans (h.1 x i a b c), h2.2.trans h.2⟩
theorem FRq7_w {x a : Nat} {v : Int} (h : (x = 621 ∧ a = 68) ∨ (669 ≤ x ∧ x ≤ 670) ∨ (674 ≤ x ∧ x ≤ 677)) : FRq7 S (ev_pI S x a v) := ⟨fun y j h1 h2 h3 => by
  rw [sp_pI1, if_neg]
  rintro ⟨rfl, rfl⟩
  omega, rfl⟩
theorem FRq7_a (h : FRa U V) : FRq7 U V := ⟨fun c i h1 h2 h3 => h.1 c i h1 h2 (by omega), h.2⟩
def CMl (l : LFs) (U : ev_St) : Prop := ∀ (j q : Nat) (d : CPs), l[j]? = some (q, d) → U.1 676 j = (q : Int) ∧ U.1 677 j = d 0
theorem al_318 : ev_aln 662 = 2520 ∧ ev_aln 663 = 2520 ∧ ev_aln 633 = 4160 ∧ ev_aln 634 = 4160 ∧ ev_aln 674 = 420 ∧ ev_aln 675 = 420 ∧ ev_aln 676 = 420 ∧ ev_aln 677 = 420 ∧ ev_aln 718 = 4 ∧ ev_aln 719 = 4 ∧ ev_aln 720 = 4 ∧ ev_aln 721 = 4 ∧ ev_aln 722 = 320 ∧ ev_aln 669 = 17010 := by decide +kernel
theorem rc_130 {K15 : Int → Int → Int → Int → ev_St → Option (Int × ev_St)} (hS : RSq7 p s n len P X S) (hk : k ≤ len) : ∀ (rest : LFs) (i : Nat) (cl : LFs) (U : ev_St) (q : Nat) (x47 : Int), (∀ x, x ∈ rest → x.1 < n ∧ ((P x.1).1 = 0 ∨ (P x.1).1 = 5) ∧ 0 ≤ x.2 0 ∧ x.2 0 ≤ 80) → (∀ (j a : Nat) (d : CPs), rest[j]? = some (a, d) → U.1 674 (i + j) = (a : Int) ∧ U.1 675 (i + j) = d 0) → FRq7 S U → CMl cl U → i + rest.length ≤ 420 → cl.length ≤ i → rest.length + 2 < q → ∃ V, jl_318_130 Q (s : Int) (p : Int) (k : Int) K15 q x47 (cl.length : Int) ((i + rest.length : Nat) : Int) (i : Int) U = (ev_ck ((k : Int) + 1) fun x62 => K15 (p : Int) (match (cut P rest).2 with
    | some d => 1000 * d 0 + (k : Int)
    | none => x47) ((cl ++ suc (X k) (cut P rest).1).length : Int) x62 V) ∧ FRq7 S V ∧ CMl (cl ++ suc (X k) (cut P rest).1) V ∧ (V.1 621 68 = match (cut P rest).2 with
    | some _ => ((i + (cut P rest).1.length : Nat) : Int)
    | none => U.1 621 68) ∧ ∀ j, V.1 674 j = U.1 674 j := fun rest => by
  obtain ⟨l2, l3, l33, l34, l74, l75, l76, l77, l718, l719, l720, l721, l722, l69⟩ := al_318
  obtain ⟨s1, ⟨s2, s3, s4, s5, s6⟩, s7, ⟨s8, s9, s10⟩, s11, s12, s13⟩ := hS
  induction rest with
  | nil =>
    intro i cl U q x47 hm hr hF hc hi hcl hq
    obtain ⟨q, rfl⟩ : ∃ r, q = r + 1 := ⟨q - 1, by omega⟩
    have e0 : cut P ([] : LFs) = ([], none) := rfl
    have e1 : suc (X k) ([] : LFs) = [] := rfl
    rw [e0]
    dsimp only
    rw [e1, List.append_nil]
    refine ⟨U, ?_, hF, hc, rfl, fun _ => rfl⟩
    show jb_318_130 _ _ _ _ _ _ _ _ _ _ _ = _
    unfold jb_318_130
    rw [if_pos (by show ((i + 0 : Nat) : Int) ≤ (i : Int); omega)]
  | cons x tl ih =>
    intro i cl U q x47 hm hr hF hc hi hcl hq
    obtain ⟨a, d⟩ := x
    rw [List.length_cons] at hi hq
    obtain ⟨q, rfl⟩ : ∃ r, q = r + 2 := ⟨q - 2, by omega⟩
    obtain ⟨m1, m2, m3, m4⟩ := hm (a, d) (List.mem_cons_self ..)
    dsimp only at m1 m2 m3 m4
    obtain ⟨r1, r2⟩ := hr 0 a d rfl
    rw [Nat.add_zero] at r1 r2
    obtain ⟨p1, p2, _⟩ := s1 a m1
    have q1 : U.1 662 (210 * p + a) = (P a).1 := (hF.1 _ _ (by omega) (by omega) (by omega)).trans p1
    have q2 : U.1 663 (210 * p + a) = (P a).2.1 := (hF.1 _ _ (by omega) (by omega) (by omega)).trans p2
    have q9 : U.1 721 s = (len : Int) := (hF.1 _ _ (by omega) (by omega) (by omega)).trans s9
    have hlen : ((i + (((a, d) :: tl : LFs)).length : Nat) : Int) = ((i + 1 + tl.length : Nat) : Int) := by
      rw [List.length_cons]
      omega
    have head : ∀ (q : Nat) (x47 : Int), jl_318_130 Q (s : Int) (p : Int) (k : Int) K15 (q + 1) x47 (cl.length : Int) ((i + 1 + tl.length : Nat) : Int) (i : Int) U = (if (P a).1 ≠ 5 then (if (len : Int) ≤ (k : Int) then (ev_ck ((i : Int) + 1) fun x83 => jl_318_130 Q (s : Int) (p : Int) (k : Int) K15 q x47 (cl.length : Int) ((i + 1 + tl.length : Nat) : Int) x83 U) else (ev_if ((0 : Int) ≤ (P a).2.1 ∧ (P a).2.1 < (ev_aln 633 : Int)) (ev_b (U.2.1 633 (Int.toNat (P a).2.1)) fun y87 => ev_if ((0 : Int) ≤ (P a).2.1 ∧ (P a).2.1 < (ev_aln 634 : Int)) (ev_b (U.2.1 634 (Int.toNat (P a).2.1)) fun y88 => ev_ck (80 * (s : Int)) fun x89 => ev_ck (x89 + (k : Int)) fun x90 => ev_if ((0 : Int) ≤ x90 ∧ x90 < (ev_aln 722 : Int)) (ev_b (U.1 722 (Int.toNat x90)) fun x91 => ev_bd (jm_244 Q y87 y88 x91 U) fun x93 s92 => if x93 = 0 then (ev_ck ((i : Int) + 1) fun x83 => jl_318_130 Q (s : Int) (p : Int) (k : Int) K15 q x47 (cl.length : Int) ((i + 1 + tl.length : Nat) : Int) x83 s92) else (ev_ck ((a : Int) + 1) fun x95 => ev_if ((0 : Int) ≤ (cl.length : Int) ∧ (cl.length : Int) < (ev_aln 676 : Int)) (ev_b (ev_pI s92 676 (Int.toNat (cl.length : Int)) x95) fun s96 => ev_if ((0 : Int) ≤ (i : Int) ∧ (i : Int) < (ev_aln 675 : Int)) (ev_b (s96.1 675 (Int.toNat (i : Int))) fun x97 => ev_if ((0 : Int) ≤ (cl.length : Int) ∧ (cl.length : Int) < (ev_aln 677 : Int)) (ev_b (ev_pI s96 677 (Int.toNat (cl.length : Int)) x97) fun s98 => ev_ck ((cl.length : Int) + 1) fun x99 => ev_ck ((i : Int) + 1) fun x83 => jl_318_130 Q (s : Int) (p : Int) (k : Int) K15 q x47 x99 ((i + 1 + tl.length : Nat) : Int) x83 s98))))))))) else (ev_if ((0 : Int) ≤ (i : Int) ∧ (i : Int) < (ev_aln 675 : Int)) (ev_b (U.1 675 (Int.toNat (i : Int))) fun x100 => ev_ck (1000 * x100) fun x101 => ev_ck (x101 + (k : Int)) fun x102 => ev_b (ev_pI U 621 68 (i : Int)) fun s103 => ev_ck ((i : Int) + 1) fun x83 => jl_318_130 Q (s : Int) (p : Int) (k : Int) K15 q x102 (cl.length : Int) (i : Int) x83 s103))) := fun q x47 => by
      show jb_318_130 _ _ _ _ _ _ _ _ _ _ _ = _
      unfold jb_318_130
      rw [if_neg (by omega), sp_if (by rw [l74]; omega), sp_b, Int.toNat_natCast, r1, sp_ck (by omega), sp_ck (by omega), sp_if (by rw [l3]; omega), sp_b, sp_ck (by omega), sp_ck (by omega), sp_if (by rw [l2]; omega), sp_b, show (210 * (p : Int) + (a : Int)).toNat = 210 * p + a from by omega, q1, q2, sp_jn]
      try dsimp only
      by_cases z : (P a).1 ≠ 5
      · rw [if_pos z, if_pos z, sp_if (by rw [l721]; omega), sp_b, Int.toNat_natCast, q9]
      · rw [if_neg z, if_neg z]
    rw [hlen]
    by_cases o5 : (P a).1 = 5
    · have e2 : cut P ((a, d) :: tl) = ([], some d) := if_pos o5
      have e1 : suc (X k) ([] : LFs) = [] := rfl
      rw [e2]
      dsimp only
      rw [e1, List.append_nil]
      refine ⟨ev_pI U 621 68 (i : Int), ?_, FRq7_t hF (FRq7_w (Or.inl ⟨rfl, rfl⟩)), ?_, ?_, fun j => rd_nk (by decide)⟩
      · rw [head, if_neg (fun z => z o5), sp_if (by rw [l75]; omega), sp_b, Int.toNat_natCast, r2, sp_ck (by omega), sp_ck (by omega), sp_b, sp_ck (by omega)]
        show jb_318_130 _ _ _ _ _ _ _ _ _ _ _ = _
        unfold jb_318_130
        rw [if_pos (by omega)]
      · exact fun j q e hj => ⟨(rd_nk (by decide)).trans (hc j q e hj).1, (rd_nk (by decide)).trans (hc j q e hj).2⟩
      · rw [rd_eq]
        rfl
    · have o0 : (P a).1 = 0 := m2.resolve_right o5
      have e2 : cut P ((a, d) :: tl) = ((a, d) :: (cut P tl).1, (cut P tl).2) := if_neg o5
      rw [e2]
      have hx := s13 k a hk m1 o0
      have b12 := s12 a m1 o0
      have hm' : ∀ x, x ∈ tl → x.1 < n ∧ ((P x.1).1 = 0 ∨ (P x.1).1 = 5) ∧ 0 ≤ x.2 0 ∧ x.2 0 ≤ 80 := fun x hx => hm x (List.mem_cons_of_mem _ hx)
      have rr : ∀ (V : ev_St), (∀ j, V.1 674 j = U.1 674 j ∧ V.1 675 j = U.1 675 j) → ∀ (j b : Nat) (e : CPs), tl[j]? = some (b, e) → V.1 674 (i + 1 + j) = (b : Int) ∧ V.1 675 (i + 1 + j) = e 0 := fun V hV j b e hj => by
        rw [(hV _).1, (hV _).2, show i + 1 + j = i + (j + 1) from by omega]
        exact hr (j + 1) b e hj
      dsimp only
      by_cases xk : X k a = true
      · have es : suc (X k) ((a, d) :: (cut P tl).1) = (a + 1, d) :: suc (X k) (cut P tl).1 := if_pos xk
        obtain ⟨x1, x2⟩ := hx.mp xk
        obtain ⟨Y, hY⟩ : ∃ Y, Y = ev_pI (ev_pI U 676 cl.length ((a : Int) + 1)) 677 cl.length (d 0) := ⟨_, rfl⟩
        have FY : FRq7 S Y := by
          rw [hY]
          exact FRq7_t hF (FRq7_t (FRq7_w (Or.inr (Or.inr ⟨by omega, by omega⟩))) (FRq7_w (Or.inr (Or.inr ⟨by omega, by omega⟩))))
        have CY : CMl (cl ++ [(a + 1, d)]) Y := fun j b e hj => by
          rw [hY]
          by_cases hjl : j < cl.length
          · rw [List.getElem?_append_left hjl] at hj
            obtain ⟨y1, y2⟩ := hc j b e hj
            exact ⟨(rd_nk (by decide)).trans ((rd_nf (by omega)).trans y1), (rd_nf (by omega)).trans ((rd_nk (by decide)).trans y2)⟩
          · rw [List.getElem?_append_right (by omega)] at hj
            have e0 : j - cl.length = 0 := by
              apply Classical.byContradiction
              intro w
              rw [List.getElem?_eq_none (by show 1 ≤ _; omega)] at hj
              cases hj
            rw [e0] at hj
            have e' : (a + 1, d) = (b, e) := Option.some.inj hj
            obtain ⟨rfl, rfl⟩ := Prod.mk.inj e'
            have ej : j = cl.length := by omega
            rw [ej]
            exact ⟨(rd_nk (by decide)).trans (rd_eq.trans (by omega)), rd_eq⟩
        obtain ⟨V, v1, v2, v3, v4, v5⟩ := ih (i + 1) (cl ++ [(a + 1, d)]) Y (q + 1) x47 hm' (rr Y fun j => by rw [hY]; exact ⟨(rd_nk (by decide)).trans (rd_nk (by decide)), (rd_nk (by decide)).trans (rd_nk (by decide))⟩) FY CY (by omega) (by rw [List.length_append]; show cl.length + 1 ≤ _; omega) (by omega)
        have eA : (cl ++ [(a + 1, d)]) ++ suc (X k) (cut P tl).1 = cl ++ suc (X k) ((a, d) :: (cut P tl).1) := by
          rw [es, List.append_assoc]
          rfl
        rw [eA] at v1 v3
        have y674 : ∀ j, Y.1 674 j = U.1 674 j := fun j => by rw [hY]; exact (rd_nk (by decide)).trans (rd_nk (by decide))
        refine ⟨V, ?_, v2, v3, ?_, fun j => (v5 j).trans (y674 j)⟩
        · rw [head, if_pos o5, if_neg (by omega), sp_if (by rw [l33]; omega), sp_b, sp_if (by rw [l34]; omega), sp_b, sp_ck (by omega), sp_ck (by omega), sp_if (by rw [l722]; omega), sp_b, show (80 * (s : Int) + (k : Int)).toNat = 80 * s + k from by omega, hF.1 722 _ (by omega) (by omega) (by omega), sp_244 (s11 k x1), sp_bd, hF.2, if_neg x2, sp_ck (by omega), sp_if (by rw [l76]; omega), sp_b, Int.toNat_natCast, sp_if (by rw [l75]; omega), sp_b, Int.toNat_natCast, rd_nk (by decide), r2, sp_if (by rw [l77]; omega), sp_b, sp_ck (by omega), sp_ck (by omega), ← hY]
          have el : ((cl ++ [(a + 1, d)]).length : Int) = (cl.length : Int) + 1 := by
            rw [List.length_append]
            rfl
          rw [el, show ((i + 1 : Nat) : Int) = (i : Int) + 1 from by omega] at v1
          exact v1
        · rw [v4]
          have y68 : Y.1 621 68 = U.1 621 68 := by rw [hY]; exact (rd_nk (by decide)).trans (rd_nk (by decide))
          rw [y68]
          cases (cut P tl).2 with
          | none => rfl
          | some e => show ((i + 1 + (cut P tl).1.length : Nat) : Int) = ((i + ((a, d) :: (cut P tl).1).length : Nat) : Int); rw [List.length_cons]; omega
      · have es : suc (X k) ((a, d) :: (cut P tl).1) = suc (X k) (cut P tl).1 := if_neg xk
        obtain ⟨V, v1, v2, v3, v4, v5⟩ := ih (i + 1) cl U (q + 1) x47 hm' (rr U fun j => ⟨rfl, rfl⟩) hF hc (by omega) (by omega) (by omega)
        rw [es]
        refine ⟨V, ?_, v2, v3, ?_, v5⟩
        · rw [show ((i + 1 : Nat) : Int) = (i : Int) + 1 from by omega] at v1
          rw [head, if_pos o5]
          by_cases kl : (len : Int) ≤ (k : Int)
          · rw [if_pos kl, sp_ck (by omega)]
            exact v1
          · have z0 : OQRrs S (P a).2.1.toNat (S.1 722 (80 * s + k)) = 0 := Classical.byContradiction fun z => xk (hx.mpr ⟨by omega, z⟩)
            rw [if_neg kl, sp_if (by rw [l33]; omega), sp_b, sp_if (by rw [l34]; omega), sp_b, sp_ck (by omega), sp_ck (by omega), sp_if (by rw [l722]; omega), sp_b, show (80 * (s : Int) + (k : Int)).toNat = 80 * s + k from by omega, hF.1 722 _ (by omega) (by omega) (by omega), sp_244 (s11 k (by omega)), sp_bd, hF.2, if_pos z0, sp_ck (by omega)]
            exact v1
        · rw [v4]
          cases (cut P tl).2 with
          | none => rfl
          | some e => show ((i + 1 + (cut P tl).1.length : Nat) : Int) = ((i + ((a, d) :: (cut P tl).1).length : Nat) : Int); rw [List.length_cons]; omega
end ORJ
