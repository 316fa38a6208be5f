/-! THE READER: a part is included, on both sides -/
section RINC2
variable {Q k n m w d N M D lv t : Nat} {φ ψ own inn G R ws y : Nat → Nat} {P q : Nat → Int} {S T S0 T0 S1 S' S2 T2 T1 T3 T4 U : ev_St}
/-- what an inclusion does to what the texts are told by -/
def INp (lv l : Nat) (p : Int) (S T S' T' : ev_St) : Prop := T'.1 645 lv = p + 5 ∧ T'.1 645 (lv + 1) = 0 ∧ (∀ i, i ≠ lv → i ≠ lv + 1 → T'.1 645 i = T.1 645 i) ∧ T'.1 644 (lv + 1) = (l : Int) ∧ (∀ x g, KTt x g → ¬ (x = 621 ∧ g = 28) → ¬ (x = 644 ∧ g = lv + 1) → T'.1 x g = T.1 x g) ∧ ∀ x g, KTs x g → ¬ (x = 3 ∧ g = 6) → ¬ (x = 16 ∧ g = lv) → S'.1 x g = S.1 x g
/-- the class's state ahead of the new group -/
def incS (S : ev_St) (p : Int) (lv w l : Nat) : ev_St := ev_pI (ev_pR (ev_pI (ev_pI (ev_pR (ev_pI (ev_pI (ev_pI S 3 8 (p + 1)) 3 14 (S.1 3 14 + 1)) 3 8 (p + 5)) 15 lv (w + 1)) 16 lv (p + 5)) 3 6 ((lv : Int) + 1)) 3 7 (169 + 2 * l + 1)) 3 8 0
theorem incS_1 {p : Int} {lv w l x g : Nat} (h : ¬ (x = 3 ∧ (g = 6 ∨ g = 8 ∨ g = 14))) (h2 : ¬ (x = 16 ∧ g = lv)) : (incS S p lv w l).1 x g = S.1 x g := by
  unfold incS
  rw [sp_pI1, if_neg (by omega)]
  show (ev_pI (ev_pI (ev_pR (ev_pI (ev_pI (ev_pI S 3 8 (p + 1)) 3 14 (S.1 3 14 + 1)) 3 8 (p + 5)) 15 lv (w + 1)) 16 lv (p + 5)) 3 6 ((lv : Int) + 1)).1 x g = _
  rw [sp_pI1, if_neg (by omega), sp_pI1, if_neg (by omega)]
  show (ev_pI (ev_pI (ev_pI S 3 8 (p + 1)) 3 14 (S.1 3 14 + 1)) 3 8 (p + 5)).1 x g = _
  rw [sp_pI1, if_neg (by omega), sp_pI1, if_neg (by omega), sp_pI1, if_neg (by omega)]
theorem incS_6 {p : Int} {lv w l : Nat} : (incS S p lv w l).1 3 6 = (lv : Int) + 1 := by
  unfold incS
  rw [rd_nf (by omega)]
  show (ev_pI (ev_pI (ev_pR (ev_pI (ev_pI (ev_pI S 3 8 (p + 1)) 3 14 (S.1 3 14 + 1)) 3 8 (p + 5)) 15 lv (w + 1)) 16 lv (p + 5)) 3 6 ((lv : Int) + 1)).1 3 6 = _
  rw [rd_eq]
theorem incS_14 {p : Int} {lv w l : Nat} : (incS S p lv w l).1 3 14 = S.1 3 14 + 1 := by
  unfold incS
  rw [rd_nf (by omega)]
  show (ev_pI (ev_pI (ev_pR (ev_pI (ev_pI (ev_pI S 3 8 (p + 1)) 3 14 (S.1 3 14 + 1)) 3 8 (p + 5)) 15 lv (w + 1)) 16 lv (p + 5)) 3 6 ((lv : Int) + 1)).1 3 14 = _
  rw [rd_nf (by omega), rd_nk (by omega)]
  show (ev_pI (ev_pI (ev_pI S 3 8 (p + 1)) 3 14 (S.1 3 14 + 1)) 3 8 (p + 5)).1 3 14 = _
  rw [rd_nf (by omega), rd_eq]
theorem incS_16 {p : Int} {lv w l : Nat} : (incS S p lv w l).1 16 lv = p + 5 := by
  unfold incS
  rw [rd_nk (by omega)]
  show (ev_pI (ev_pI (ev_pR (ev_pI (ev_pI (ev_pI S 3 8 (p + 1)) 3 14 (S.1 3 14 + 1)) 3 8 (p + 5)) 15 lv (w + 1)) 16 lv (p + 5)) 3 6 ((lv : Int) + 1)).1 16 lv = _
  rw [rd_nk (by omega), rd_eq]
theorem incS_R {p : Int} {lv w l : Nat} {x g : Nat} : (incS S p lv w l).2.2.1 x g = if x = 3 ∧ g = 7 then 169 + 2 * l + 1 else if x = 15 ∧ g = lv then w + 1 else S.2.2.1 x g := rfl
theorem incS_L {p : Int} {lv w l : Nat} : (incS S p lv w l).2.1 = S.2.1 := rfl
/-- the class's inclusion -/
theorem inc_C {p d e : Int} {L : Nat} (ht : RIt lv ws S T) (hp : 0 ≤ p ∧ p ≤ 200) (hd : sp_at S (ws lv) (p + 3) = d) (he : sp_at S (ws lv) (p + 4) = e) (hc : 0 ≤ S.1 3 14 ∧ S.1 3 14 ≤ 1000) (hl : lv < 27) : ((ch_l d = 0 ∨ e ≠ 41) → ∃ S', jm_111 Q (ev_pI S 3 8 (p + 1)) = some (0, S')) ∧ (d = 97 + (L : Int) → L < 26 → e = 41 → (((L : Int) = T.1 621 26 ∨ S.1 5 L = 0 ∨ 150 ≤ S.1 3 14) → ∃ S', jm_111 Q (ev_pI S 3 8 (p + 1)) = some (0, S')) ∧ ((L : Int) ≠ T.1 621 26 → S.1 5 L = 1 → S.1 3 14 < 150 → ∀ S', jm_98 Q 17 0 1 (incS S p lv (ws lv) L) = some (1, S') → jm_111 Q (ev_pI S 3 8 (p + 1)) = some (1, S'))) := by
  obtain ⟨_, l2, l3, _, _⟩ := al_I
  have h6 : (ev_pI S 3 8 (p + 1)).1 3 6 = (lv : Int) := by rw [rd_nf (by omega)]; exact ht.2.2.1.2.2
  have h7 := ht.2.2.2.2.2.2
  have hR7 : S.2.2.1 3 7 = ws lv + 1 := ht.2.2.2.2.2.1.1
  have start : ∀ {A}, (∀ (s : ev_St), s = ev_pI S 3 8 (p + 1) → (if ch_l d = 0 then some ((0 : Int), s) else (if e ≠ 41 then (some (0, s)) else (ev_b (s.1 3 12) fun x9 => if d ≠ x9 then (ev_ck (d - 97) fun x11 => ev_if ((0 : Int) ≤ x11 ∧ x11 < (ev_aln 5 : Int)) (ev_b (s.1 5 (Int.toNat x11)) fun x12 => if x12 = 0 then (some (0, s)) else (ev_b (s.1 3 6) fun x14 => if x14 < 0 then (some (0, s)) else (ev_b (s.1 3 6) fun x16 => if 28 ≤ x16 then (some (0, s)) else (ev_bd (jm_87 Q  s) fun x19 s18 => if x19 ≠ 0 then (ev_b (s18.1 3 8) fun x21 => ev_ck (x21 + 4) fun x22 => ev_b (ev_pI s18 3 8 x22) fun s23 => ev_b (s23.1 3 6) fun x24 => ev_b (s23.2.2.1 3 7) fun r25 => ev_if (r25 ≠ 0) (ev_if ((0 : Int) ≤ x24 ∧ x24 < (28 : Int)) (ev_b (ev_pR s23 15 (Int.toNat x24) ((r25 - 1) + 1)) fun s26 => ev_b (s26.1 3 6) fun x28 => ev_b (s26.1 3 8) fun x29 => ev_if ((0 : Int) ≤ x28 ∧ x28 < (ev_aln 16 : Int)) (ev_b (ev_pI s26 16 (Int.toNat x28) x29) fun s30 => ev_b (s30.1 3 6) fun x31 => ev_ck (x31 + 1) fun x32 => ev_b (ev_pI s30 3 6 x32) fun s33 => ev_ck (d - 97) fun x34 => ev_if ((0 : Int) ≤ x34 ∧ x34 < (26 : Int)) (ev_b (169 + 2 * Int.toNat x34) fun _ => ev_b (ev_pR s33 3 7 (((169 + 2 * Int.toNat x34) + 1))) fun s37 => ev_b (ev_pI s37 3 8 0) fun s38 => ev_bd (jm_98 Q 17 0 1 s38) fun x40 s39 => ev_if (ev_bl x40) (some (x40, s39))))))) else (some (0, s18))))))) else (some (0, s))))) = A) → jm_111 Q (ev_pI S 3 8 (p + 1)) = A := fun {A} hA => by
    unfold jm_111
    rw [pk_Sp ht (by omega), sp_bd, show p + 1 + 2 = p + 3 from by omega, hd, sp_209, sp_bd, pk_Sp ht (by omega), sp_bd, show p + 1 + 3 = p + 4 from by omega, he]
    exact hA _ rfl
  refine ⟨fun h => ?_, fun h1 h2 h3 => ?_⟩
  · refine ⟨ev_pI S 3 8 (p + 1), start fun s hs => ?_⟩
    subst hs
    by_cases z : ch_l d = 0
    · rw [if_pos z]
    · rw [if_neg z, if_pos (by omega)]
  · have hcl : ch_l d = 1 := (ch_l_i d).1.mpr (by omega)
    have h5 : (ev_pI S 3 8 (p + 1)).1 5 L = S.1 5 L := rd_nk (by omega)
    have h12 : (ev_pI S 3 8 (p + 1)).1 3 12 = S.1 3 12 := rd_nf (by omega)
    have eL : (d - 97).toNat = L := by omega
    refine ⟨fun h => ?_, fun c1 c2 c3 S' hS' => start fun s hs => ?_⟩
    · by_cases z1 : (L : Int) = T.1 621 26
      · refine ⟨ev_pI S 3 8 (p + 1), start fun s hs => ?_⟩
        subst hs
        rw [if_neg (by omega), if_neg (by omega), sp_b, h12, if_neg (by omega)]
      by_cases z2 : S.1 5 L = 0
      · refine ⟨ev_pI S 3 8 (p + 1), start fun s hs => ?_⟩
        subst hs
        rw [if_neg (by omega), if_neg (by omega), sp_b, h12, if_pos (by omega), sp_ck (by omega), sp_if (by rw [l2]; omega), eL, h5, sp_b, if_pos z2]
      · refine ⟨ev_pI (ev_pI S 3 8 (p + 1)) 3 14 (S.1 3 14 + 1), start fun s hs => ?_⟩
        subst hs
        rw [if_neg (by omega), if_neg (by omega), sp_b, h12, if_pos (by omega), sp_ck (by omega), sp_if (by rw [l2]; omega), eL, h5, sp_b, if_neg z2, sp_b, h6, if_neg (by omega), sp_b, if_neg (by omega), sp_87 (by rw [rd_nf (by omega)]; omega), rd_nf (by omega), if_pos (by omega), sp_bd, if_neg (by decide)]
    · subst hs
      rw [if_neg (by omega), if_neg (by omega), sp_b, h12, if_pos (by omega), sp_ck (by omega), sp_if (by rw [l2]; omega), eL, h5, sp_b, if_neg (by omega), sp_b, h6, if_neg (by omega), sp_b, if_neg (by omega), sp_87 (by rw [rd_nf (by omega)]; omega), rd_nf (by omega), if_neg (by omega), sp_bd, if_pos (by decide), sp_b, rd_nf (by omega), rd_eq, sp_ck (by omega), sp_b, show p + 1 + 4 = p + 5 from by omega]
      have a6 : (ev_pI (ev_pI (ev_pI S 3 8 (p + 1)) 3 14 (S.1 3 14 + 1)) 3 8 (p + 5)).1 3 6 = (lv : Int) := (rd_nf (by omega)).trans ((rd_nf (by omega)).trans h6)
      have a8 : (ev_pI (ev_pI (ev_pI S 3 8 (p + 1)) 3 14 (S.1 3 14 + 1)) 3 8 (p + 5)).1 3 8 = p + 5 := rd_eq
      have a7 : (ev_pI (ev_pI (ev_pI S 3 8 (p + 1)) 3 14 (S.1 3 14 + 1)) 3 8 (p + 5)).2.2.1 3 7 = ws lv + 1 := hR7
      unfold incS at hS'
      generalize ev_pI (ev_pI (ev_pI S 3 8 (p + 1)) 3 14 (S.1 3 14 + 1)) 3 8 (p + 5) = A1 at *
      have r1 : ∀ x g, (ev_pR A1 15 lv (ws lv + 1)).1 x g = A1.1 x g := fun _ _ => rfl
      rw [sp_b, a6, sp_b, a7, sp_if (by omega), sp_if (by omega), sp_b, Int.toNat_natCast, Nat.add_sub_cancel, r1, r1, a6, a8, sp_b, sp_b, sp_if (by rw [l3]; omega), sp_b, Int.toNat_natCast, rd_nk (by omega), r1, a6, sp_b, sp_ck (by omega), sp_b, sp_ck (by omega), sp_if (by omega), eL, sp_b, sp_b, sp_b, hS', sp_bd, sp_if (show ev_bl 1 from Or.inr rfl)]
end RINC2
