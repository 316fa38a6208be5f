/-! REPLACE -/
section OSJ
variable {Q p k t m i j len w s E b c0 G cnt L : Nat} {xs : Nat → Int32} {n o0 : Int} {S S1 S2 S' T T1 T2 T' U V C W X : ev_St} {a c d e f v x y md lim a0 a1 a2 a3 : Int} {D : lg_D}
def FPq (T T' : ev_St) : Prop := (∀ c g, ¬ (c = 621 ∧ ((73 ≤ g ∧ g ≤ 105) ∨ g = 113)) → ¬ (678 ≤ c ∧ c ≤ 699) → ¬ (702 ≤ c ∧ c ≤ 705) → T'.1 c g = T.1 c g) ∧ (∀ c g, T'.2.1 c g = T.2.1 c g) ∧ (∀ c g, T'.2.2.1 c g = T.2.2.1 c g) ∧ T'.2.2.2 = T.2.2.2
/-- a text is loaded, and a replacement prepared, on both sides -/
theorem one20 (hQ : 40000000000 ≤ Q) (hK : sp_PT S) (hTR : sp_TR S) (hG : SG S) (hB : sp_BR S) (hp : (p : Int) < S.1 0 5) (ht : (t : Int) < S.1 0 7) (hb : b < 3) (hl : S.1 (263 + 2 * b) 1 = (len : Int)) (h80 : len ≤ 80) (hW : jm_43 Q (263 + 2 * b + 1) S = some ((), W)) (hT : RFq S T) : ∃ v S' T1 T', jm_288 Q (b : Int) T = some ((), T1) ∧ jm_44 Q 282 (313 + 20 * p + 1) (553 + 2 * t + 1) lim W = (if v = -1 then some (-1, S') else ev_bd (jm_45 Q v S') fun _ s => some (v, s)) ∧ jm_349 Q (p : Int) (t : Int) lim T1 = some (v, T') ∧ FPs W S' ∧ FPq T T' ∧ (v = -1 ∨ ∃ m s E, v = ((m : Nat) : Int) ∧ FNL m len s E S' T') := by
  obtain ⟨b1, b2, b3, b4⟩ := hB b hb
  obtain ⟨W', w1, w2, w3, w4, w5, w6, w7⟩ := sp_43 (Q := Q) (S := S) hb
  have e : W' = W := by
    rw [hW] at w1
    injection w1 with w1
    injection w1 with _ w1
    exact w1.symm
  subst e
  obtain ⟨T1, t1, t2, t3, t4, t5⟩ := sp_288 (Q := Q) (m := b) (len := len) (T := T) hb (by omega) (by rw [hT.1 707 b (by omega) (by omega) (by omega) (by omega) (by omega), b3]; exact hl) (by omega)
  have hT1 : RFq S T1 := ⟨fun c g y1 y2 y3 y4 y5 => by rw [t4 c g (by omega) (by omega)]; exact hT.1 c g y1 y2 y3 y4 y5, fun c g y => by rw [t5]; exact hT.2 c g y⟩
  obtain ⟨v, S', T', p1, p2, p3, p4, p5, p6⟩ := mend_two (lim := lim) (W := W') hQ hK hTR hp ht h80 (by rw [w2]; exact hl) (fun c g y1 y2 => w6 c g (by omega) (by omega) (by omega)) (fun c g _ => by rw [w7]) (RFw_of hT1) t2 (fun i hi => by
    rw [w3 i (by omega), t3 i hi, hT.1 708 _ (by omega) (by omega) (by omega) (by omega) (by omega), (b4 i (by omega)).1]
    exact ⟨rfl, hG b hb i (by omega)⟩)
  refine ⟨v, S', T1, T', t1, p1, p2, p3, ⟨fun c g y1 y2 y3 => ?_, fun c g => ?_, fun c g => ?_, ?_⟩, p6⟩
  · by_cases z : c = 621 ∧ g = 73
    · exact absurd (Or.inl (by omega)) (fun q => y1 ⟨z.1, q⟩)
    · rw [p4.1 c g (by omega) (by omega) y3 (by omega), t4 c g (by omega) (by omega)]
  · rw [p4.2.1, t5]
  · rw [p4.2.2.1, t5]
  · rw [p4.2.2.2, t5]
theorem RM_c (h : sp_RM S) (h1 : ∀ c g, (c = 0 ∧ (g = 5 ∨ g = 7 ∨ g = 15 ∨ g = 16)) ∨ (305 ≤ c ∧ c ≤ 311) ∨ c = 717 → S2.1 c g = S.1 c g) (hr : S.1 0 15 + S.1 0 16 ≤ 6) : sp_RM S2 := fun g hg => by
  rw [h1 0 15 (by omega), h1 0 16 (by omega)] at hg
  obtain ⟨y1, y2⟩ := h g hg
  rw [h1 311 g (by omega)]
  refine ⟨y1, fun i hi => ?_⟩
  rw [h1 717 _ (by omega), h1 717 _ (by omega), h1 717 _ (by omega), h1 (305 + g) _ (by omega), h1 (305 + g) _ (by omega), h1 (305 + g) _ (by omega), h1 0 5 (by omega), h1 0 7 (by omega)]
  exact y2 i hi
theorem RR_c (h : sp_RR S) (h1 : ∀ c g, (c = 0 ∧ (g = 15 ∨ g = 16)) ∨ c = 311 ∨ c = 716 ∨ (c = 621 ∧ (g = 135 ∨ g = 136)) → S2.1 c g = S.1 c g) : sp_RR S2 := by
  obtain ⟨a1, a2, a3, a4, a5, a6⟩ := h
  unfold sp_RR
  rw [h1 0 15 (by omega), h1 0 16 (by omega), h1 621 135 (by omega), h1 621 136 (by omega)]
  exact ⟨a1, a2, a3, a4, fun g hg => by rw [h1 716 g (by omega), h1 311 g (by omega)]; exact a5 g hg, fun g hg => by rw [h1 311 g (by omega)]; exact a6 g hg⟩
theorem RR_6 (h : sp_RR S) : S.1 0 15 + S.1 0 16 ≤ 6 := by
  obtain ⟨a1, a2, a3, a4, a5, a6⟩ := h
  omega
/-- what a refusal leaves -/
theorem rp_no (hn : 0 ≤ n ∧ n ≤ 511) (hLG : LG n D S) (h8 : B8 D S S) (hRR : sp_RR S) (hRM : sp_RM S) (f : ∀ c g, ¬ (269 ≤ c ∧ c ≤ 283) → ¬ (c = 621 ∧ (g = 0 ∨ (73 ≤ g ∧ g ≤ 105) ∨ g = 113)) → ¬ (678 ≤ c ∧ c ≤ 699) → ¬ (702 ≤ c ∧ c ≤ 705) → S2.1 c g = S.1 c g) (l : ∀ c g, c ≠ 723 → S2.2.1 c g = S.2.1 c g) (r : ∀ c g, c ≠ 281 → S2.2.2.1 c g = S.2.2.1 c g) (hN : ev_sN S2 = ev_sN S) (hC : ev_sC S2 ≤ ev_sC S + 1) (hZ : ev_sZ S2 ≤ ev_sZ S + 6) : LG (n + 1) D S2 ∧ B8 D S2 S2 ∧ sp_RR S2 ∧ sp_RM S2 ∧ sp_GR S S2 := by
  refine ⟨LG_of (L2_mono (by omega) (L2_c2 (L2_of hLG) (fun k g hk => f k g (by omega) (by omega) (by omega) (by omega)) (fun a j ha => r a j (by omega)) hN (fun k g hk => f k g (by omega) (by omega) (by omega) (by omega)))), B8_c h8 (fun b hb => f _ _ (by omega) (by omega) (by omega) (by omega)) (f _ _ (by omega) (by omega) (by omega) (by omega)) (fun g => f _ _ (by omega) (by omega) (by omega) (by omega)), RR_c hRR (fun c g y => f c g (by omega) (by omega) (by omega) (by omega)), RM_c hRM (fun c g y => f c g (by omega) (by omega) (by omega) (by omega)) (RR_6 hRR), fun c g y1 y2 => ?_, l, fun c g _ _ y => r c g y, by omega, by omega⟩
  unfold sp_W20 at y2
  exact f c g (by omega) (by omega) (by omega) (by omega)
theorem b186 (hf : ¬ (S.1 0 16 ≠ 0 ∧ S.1 0 15 < 6 ∧ 10 ≤ S.1 311 (S.1 0 15).toNat)) (h15 : 0 ≤ S.1 0 15) {r2 r4 r6 : Nat} : B186 Q a0 a1 a2 a3 r2 r4 r6 S = ev_bd (jm_43 Q r6 S) fun _ s23 => ev_bd (jm_44 Q 282 r2 r4 a3 s23) fun x25 s24 => if x25 ≠ -1 then (ev_bd (jm_47 Q 255 a2 s24) fun _ s27 => ev_b (s27.1 0 16) fun x28 => if x28 = 0 then (some ((Sum.inl x25 : Int ⊕ String), s27)) else (ev_bd (jm_206 Q a0 a1 a3 s27) fun _ s30 => some ((Sum.inl x25 : Int ⊕ String), s30))) else (some (.inr "java/lang/IllegalStateException", ev_tick s24)) := by
  obtain ⟨_, l311, _, _⟩ := al_mac
  unfold B186
  rw [sp_b, sp_jn]
  by_cases z : S.1 0 16 = 0
  · rw [if_pos z]
  · rw [if_neg z, sp_b]
    by_cases z2 : 6 ≤ S.1 0 15
    · rw [if_pos z2]
    · have z3 : S.1 311 (S.1 0 15).toNat < 10 := by
        apply Classical.byContradiction
        intro y
        exact hf ⟨z, by omega, by omega⟩
      rw [if_neg z2, sp_b, sp_if (by rw [l311]; omega), sp_b, if_pos z3]
theorem b351 (hf : ¬ (T.1 621 136 ≠ 0 ∧ T.1 716 (T.1 621 135).toNat = 10)) (h15 : 0 ≤ T.1 621 135 ∧ T.1 621 135 ≤ 6) : B351 Q a0 a1 a2 a3 T = ev_bd (jm_288 Q a2 T) fun _ s22 => ev_bd (jm_349 Q a0 a1 a3 s22) fun x24 s23 => if x24 ≠ (-1) then (ev_bd (jm_350 Q a2 x24 s23) fun _ s26 => ev_bd (jm_345 Q s26) fun _ s27 => ev_b (s27.1 621 136) fun x28 => if x28 = 0 then (some (x24, s27)) else (ev_b (s27.1 621 135) fun x30 => ev_ck (30 * x30) fun x31 => ev_b (s27.1 621 135) fun x32 => ev_if ((0 : Int) ≤ x32 ∧ x32 < (ev_aln 716 : Int)) (ev_b (s27.1 716 (Int.toNat x32)) fun x33 => ev_ck (3 * x33) fun x34 => ev_ck (x31 + x34) fun x35 => ev_if ((0 : Int) ≤ x35 ∧ x35 < (ev_aln 717 : Int)) (ev_b (ev_pI s27 717 (Int.toNat x35) a0) fun s36 => ev_ck (x35 + 1) fun x37 => ev_if ((0 : Int) ≤ x37 ∧ x37 < (ev_aln 717 : Int)) (ev_b (ev_pI s36 717 (Int.toNat x37) a1) fun s38 => ev_ck (x35 + 2) fun x39 => ev_if ((0 : Int) ≤ x39 ∧ x39 < (ev_aln 717 : Int)) (ev_b (ev_pI s38 717 (Int.toNat x39) a3) fun s40 => ev_b (s40.1 621 135) fun x41 => ev_if ((0 : Int) ≤ x41 ∧ x41 < (ev_aln 716 : Int)) (ev_b (s40.1 716 (Int.toNat x41)) fun x42 => ev_ck (x42 + 1) fun x43 => ev_if ((0 : Int) ≤ x41 ∧ x41 < (ev_aln 716 : Int)) (ev_b (ev_pI s40 716 (Int.toNat x41) x43) fun s44 => some (x24, s44))))))))) else (ev_bd (jm_221 Q 3 s23) fun x46 s45 => some (x46, s45)) := by
  obtain ⟨_, _, l716, _⟩ := al_mac
  unfold B351
  rw [sp_b, sp_jn]
  by_cases z : T.1 621 136 = 0
  · rw [if_pos z]
  · rw [if_neg z, sp_b, sp_if (by rw [l716]; omega), sp_b, if_pos (show T.1 716 (T.1 621 135).toNat ≠ 10 from fun y => hf ⟨z, y⟩)]
end OSJ
