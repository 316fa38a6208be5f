/-! ASSEMBLY: the invariant, and what keeps it -/
section OST
variable {Q L j k B : Nat} {xs : Nat → Int32} {S S2 : ev_St} {n : Int} {D D' : lg_D}
theorem k_TR (h : sp_TR S) (f : ∀ c g, (c = 0 ∧ g = 7) ∨ (c = 621 ∧ g = 110) ∨ (553 ≤ c ∧ c ≤ 568) ∨ c = 700 ∨ c = 701 → S2.1 c g = S.1 c g) : sp_TR S2 := by
  obtain ⟨⟨t1, t2⟩, t3, t4⟩ := h
  unfold sp_TR
  rw [f 0 7 (by omega), f 621 110 (by omega)]
  refine ⟨⟨t1, t2⟩, t3, fun t ht => ?_⟩
  obtain ⟨a1, a2, a3, a4⟩ := t4 t ht
  have e : sp_at S2 (553 + 2 * t) = sp_at S (553 + 2 * t) := funext fun p => by
    unfold sp_at
    rw [f _ 1 (by omega), f (553 + 2 * t + 1) _ (by omega)]
  rw [f 701 t (by omega), f (553 + 2 * t) 1 (by omega), e]
  exact ⟨a1, a2, fun g hg => by rw [f 700 _ (by omega), f (553 + 2 * t + 1) g (by omega)]; exact a3 g hg, a4⟩
theorem k_RM (h : sp_RM S) (hr : S.1 0 15 + S.1 0 16 ≤ 6) (f : ∀ c g, (c = 0 ∧ (g = 15 ∨ g = 16)) ∨ (305 ≤ c ∧ c ≤ 311) ∨ c = 717 → S2.1 c g = S.1 c g) (h5 : S.1 0 5 ≤ S2.1 0 5) (h7 : S.1 0 7 ≤ S2.1 0 7) : sp_RM S2 := fun g hg => by
  rw [f 0 15 (by omega), f 0 16 (by omega)] at hg
  obtain ⟨y1, y2⟩ := h g hg
  rw [f 311 g (by omega)]
  refine ⟨y1, fun i hi => ?_⟩
  rw [f 717 _ (by omega), f 717 _ (by omega), f 717 _ (by omega), f (305 + g) _ (by omega), f (305 + g) _ (by omega), f (305 + g) _ (by omega)]
  obtain ⟨z1, z2, z3, z4⟩ := y2 i hi
  exact ⟨z1, ⟨z2.1, by omega⟩, ⟨z3.1, by omega⟩, z4⟩
theorem k_PT (h : sp_PT S) (f : ∀ c g, (c = 0 ∧ g = 5) ∨ (c = 621 ∧ g = 5) ∨ (313 ≤ c ∧ c ≤ 552) ∨ (625 ≤ c ∧ c ≤ 632 ∧ g < 3840) ∨ (635 ≤ c ∧ c ≤ 636 ∧ g < 12) ∨ (c = 637 ∧ g < 120) ∨ (c = 638 ∧ g < 312) ∨ (639 ≤ c ∧ c ≤ 643) ∨ (662 ≤ c ∧ c ≤ 665) → S2.1 c g = S.1 c g) (l : ∀ c g, (313 ≤ c ∧ c ≤ 552) ∨ (633 ≤ c ∧ c ≤ 634 ∧ g < 3840) → S2.2.1 c g = S.2.1 c g) : sp_PT S2 := by
  have hc := h.1
  refine PT_c h ⟨f _ _ (by omega), f _ _ (by omega)⟩ fun p hp => ⟨fun x i x1 x2 => ⟨f x i (by omega), l x i (by omega)⟩, ⟨fun c g y y1 y2 => ?_, fun c g y1 y2 y3 y4 => l c g (by omega), fun c y => f c p (by omega), fun i _ => f _ _ (by omega), fun i _ => f _ _ (by omega)⟩, f _ _ (by omega), f _ _ (by omega), fun c g y1 y2 _ _ => f c g (by omega)⟩
  rcases y with y | y
  · exact f c g (by omega)
  · exact f c g (by omega)
theorem k_ST (h : sp_ST B S) (h12 : S.1 0 5 ≤ 12) (h0 : S.1 0 5 ≤ S2.1 0 5) (f : ∀ c g, (c = 0 ∧ g = 18) ∨ (c = 621 ∧ g = 139) ∨ (569 ≤ c ∧ c ≤ 620) ∨ (718 ≤ c ∧ c ≤ 722) → S2.1 c g = S.1 c g) (r : ∀ c i, 569 ≤ c → c ≤ 620 → S2.2.2.1 c i = S.2.2.1 c i) (hp : ∀ p : Nat, (p : Int) < S.1 0 5 → (∀ c g, 313 + 20 * p ≤ c → c ≤ 313 + 20 * p + 19 → S2.1 c g = S.1 c g ∧ S2.2.1 c g = S.2.1 c g) ∧ ∀ c g, 662 ≤ c → c ≤ 664 → 210 * p ≤ g → g < 210 * p + 210 → S2.1 c g = S.1 c g) : sp_ST (B + 90) S2 := ST_c h (Nat.le_add_right _ _) h0 ⟨f _ _ (by omega), f _ _ (by omega)⟩ (fun c g y1 y2 => f c g (by omega)) r (fun c g y1 y2 => f c g (by omega)) hp
theorem k_SP (h12 : S.1 0 5 ≤ 12) (f : ∀ c g, (313 ≤ c ∧ c ≤ 552) ∨ (662 ≤ c ∧ c ≤ 664) → S2.1 c g = S.1 c g) (l : ∀ c g, 313 ≤ c → c ≤ 552 → S2.2.1 c g = S.2.1 c g) : ∀ p : Nat, (p : Int) < S.1 0 5 → (∀ c g, 313 + 20 * p ≤ c → c ≤ 313 + 20 * p + 19 → S2.1 c g = S.1 c g ∧ S2.2.1 c g = S.2.1 c g) ∧ ∀ c g, 662 ≤ c → c ≤ 664 → 210 * p ≤ g → g < 210 * p + 210 → S2.1 c g = S.1 c g := fun p hp => ⟨fun c g y1 y2 => ⟨f c g (by omega), l c g (by omega) (by omega)⟩, fun c g y1 y2 _ _ => f c g (by omega)⟩
theorem k_LG (h : LG_g n D S) (f : ∀ c g, (c = 254 ∧ (g = 4 ∨ (9 ≤ g ∧ g ≤ 14))) ∨ (256 ≤ c ∧ c ≤ 258) ∨ c = 261 ∨ (263 ≤ c ∧ c ≤ 268) ∨ 724 ≤ c ∨ (707 ≤ c ∧ c ≤ 715) ∨ (c = 621 ∧ (g = 121 ∨ (125 ≤ g ∧ g ≤ 132))) → S2.1 c g = S.1 c g) (r : ∀ a j, a = 259 ∨ a = 260 → S2.2.2.1 a j = S.2.2.1 a j) (hN : ev_sN S2 = ev_sN S) : LG_g (n + 1) D S2 := LG_of_g (L2_mono_g (by omega) (L2_of_g (LG_c2_g h (fun c g y => f c g (by omega)) r hN (fun c g y => f c g (by omega)))))
theorem k_LG1 (h : LG_g n D S) : LG_g (n + 1) D S := LG_of_g (L2_mono_g (by omega) (L2_of_g h))
theorem k_B8 (h : B8 D S S) (f : ∀ c g, (c = 254 ∧ g = 13) ∨ (263 ≤ c ∧ c ≤ 268) ∨ c = 714 → S2.1 c g = S.1 c g) : B8 D S2 S2 := B8_c h (fun b hb => f _ _ (by omega)) (f _ _ (by omega)) (fun g => f _ _ (by omega))
theorem SG_of_g (h : LG_g n D S) : SG S := fun b hb i hi => ((h.2.1.2.2.2.1 b hb).2.2.2 i hi).2.2.2
theorem BR_of_g (h : LG_g n D S) : sp_BR S := t2_B_i_g h.2.1.2.2.2.1
/-- what holds before the call number k -/
def INV (k : Nat) (S : ev_St) : Prop := ∃ D : lg_D, (sp_DR S ∧ sp_PA S ∧ sp_PT S ∧ sp_TR S) ∧ (LG_g (k : Int) D S ∧ B8 D S S ∧ sp_RR S ∧ sp_RM S) ∧ (THn 284 20 (90 * k) S ∧ THn 294 1 (90 * k) S) ∧ (sp_ST (90 * k) S ∧ sp_ZR S) ∧ ev_sC S ≤ ev_sN S + k ∧ ev_sZ S + 1024 * 724 ≤ 3553586 + 1024 * ev_sN S + 6 * k
theorem INV_mk (h : INV k S) (c1 : sp_DR S2) (c2 : sp_PA S2) (c3 : sp_PT S2) (c4 : sp_TR S2) (c5 : LG_g ((k : Int) + 1) D' S2) (c6 : B8 D' S2 S2) (c7 : sp_RR S2) (c8 : sp_RM S2) (c9 : THn 284 20 (90 * k + 90) S2) (c10 : THn 294 1 (90 * k + 90) S2) (c11 : sp_ST (90 * k + 90) S2) (c12 : sp_ZR S2) (hC : ev_sC S2 + ev_sN S ≤ ev_sC S + ev_sN S2 + 1) (hZ : ev_sZ S2 + 1024 * ev_sN S ≤ ev_sZ S + 1024 * ev_sN S2 + 6) : INV (k + 1) S2 := by
  obtain ⟨_, _, _, _, _, d1, d2⟩ := h
  have e : 90 * (k + 1) = 90 * k + 90 := Nat.mul_succ 90 k
  have e2 : ((k + 1 : Nat) : Int) = (k : Int) + 1 := by omega
  refine ⟨D', ⟨c1, c2, c3, c4⟩, ⟨by rw [e2]; exact c5, c6, c7, c8⟩, ⟨by rw [e]; exact c9, by rw [e]; exact c10⟩, ⟨by rw [e]; exact c11, c12⟩, ?_, ?_⟩
  · generalize ev_sC S2 = x1 at *
    generalize ev_sN S2 = x2 at *
    omega
  · generalize ev_sZ S2 = x1 at *
    generalize ev_sN S2 = x2 at *
    omega
theorem st_c (h : INV k S)  (hF : sp_F sp_Wc S S2) : INV (k + 1) S2 := by
  have h0 := h
  obtain ⟨D, ⟨hDR, hPA, hPT, hTR⟩, ⟨hLG, hB8, hRR, hRM⟩, ⟨hT1, hT2⟩, ⟨hST, hZR⟩, hC0, hZ0⟩ := h
  have r6 := RR_6 hRR
  have h12 : S.1 0 5 ≤ 12 := hPT.1.2.1
  have f : ∀ c g, ¬ (c = 621 ∧ g = 0) → S2.1 c g = S.1 c g := fun c g y => hF.1 c g (by
    intro z
    unfold sp_Wc at z
    omega)
  have l : ∀ c g, c ≠ 723 → S2.2.1 c g = S.2.1 c g := fun c g y => hF.2.1 c g y
  have r : ∀ c g, c ≠ 99999 → S2.2.2.1 c g = S.2.2.1 c g := fun c g _ => by rw [hF.2.2.1]
  have hN : ev_sN S2 = ev_sN S := hF.2.2.2.2.1
  have hc1 : ev_sC S2 ≤ ev_sC S + 1 := hF.2.2.2.2.2.1
  have hz1 : ev_sZ S2 ≤ ev_sZ S + 6 := hF.2.2.2.2.2.2
  have hC : ev_sC S2 + ev_sN S ≤ ev_sC S + ev_sN S2 + 1 := by
    rw [hN]
    omega
  have hZ : ev_sZ S2 + 1024 * ev_sN S ≤ ev_sZ S + 1024 * ev_sN S2 + 6 := by
    rw [hN]
    omega
  exact INV_mk h0 (DR_c2 (fun c g y => f c g (by omega)) hDR) (PA_c2 (fun c g y => f c g (by omega)) hPA) (k_PT hPT (fun c g y => f c g (by omega)) (fun c g y => l c g (by omega))) (k_TR hTR (fun c g y => f c g (by omega))) (k_LG hLG (fun c g y => f c g (by omega)) (fun a j y => r a j (by omega)) hN) (k_B8 hB8 (fun c g y => f c g (by omega))) (RR_c hRR (fun c g y => f c g (by omega))) (k_RM hRM r6 (fun c g y => f c g (by omega)) (Int.le_of_eq (f 0 5 (by omega)).symm) (Int.le_of_eq (f 0 7 (by omega)).symm)) (THn_c hT1 (fun c g y1 y2 => f c g (by omega)) (fun g => r 284 g (by omega)) (Nat.le_add_right _ _)) (THn_c hT2 (fun c g y1 y2 => f c g (by omega)) (fun g => r 294 g (by omega)) (Nat.le_add_right _ _)) (k_ST hST h12 (Int.le_of_eq (f 0 5 (by omega)).symm) (fun c g y => f c g (by omega)) (fun c i y1 y2 => r c i (by omega)) (k_SP h12 (fun c g y => f c g (by omega)) (fun c g y1 y2 => l c g (by omega)))) (ZR_c hZR (fun c g y => f c g (by omega))) hC hZ
theorem st_7 (h : INV k S)  (hF : sp_F sp_W7 S S2) : INV (k + 1) S2 := by
  have h0 := h
  obtain ⟨D, ⟨hDR, hPA, hPT, hTR⟩, ⟨hLG, hB8, hRR, hRM⟩, ⟨hT1, hT2⟩, ⟨hST, hZR⟩, hC0, hZ0⟩ := h
  have r6 := RR_6 hRR
  have h12 : S.1 0 5 ≤ 12 := hPT.1.2.1
  have f : ∀ c g, ¬ ((c = 621 ∧ g = 0) ∨ (658 ≤ c ∧ c ≤ 661)) → S2.1 c g = S.1 c g := fun c g y => hF.1 c g (by
    intro z
    unfold sp_W7 at z
    omega)
  have l : ∀ c g, c ≠ 723 → S2.2.1 c g = S.2.1 c g := fun c g y => hF.2.1 c g y
  have r : ∀ c g, c ≠ 99999 → S2.2.2.1 c g = S.2.2.1 c g := fun c g _ => by rw [hF.2.2.1]
  have hN : ev_sN S2 = ev_sN S := hF.2.2.2.2.1
  have hc1 : ev_sC S2 ≤ ev_sC S + 1 := hF.2.2.2.2.2.1
  have hz1 : ev_sZ S2 ≤ ev_sZ S + 6 := hF.2.2.2.2.2.2
  have hC : ev_sC S2 + ev_sN S ≤ ev_sC S + ev_sN S2 + 1 := by
    rw [hN]
    omega
  have hZ : ev_sZ S2 + 1024 * ev_sN S ≤ ev_sZ S + 1024 * ev_sN S2 + 6 := by
    rw [hN]
    omega
  exact INV_mk h0 (DR_c2 (fun c g y => f c g (by omega)) hDR) (PA_c2 (fun c g y => f c g (by omega)) hPA) (k_PT hPT (fun c g y => f c g (by omega)) (fun c g y => l c g (by omega))) (k_TR hTR (fun c g y => f c g (by omega))) (k_LG hLG (fun c g y => f c g (by omega)) (fun a j y => r a j (by omega)) hN) (k_B8 hB8 (fun c g y => f c g (by omega))) (RR_c hRR (fun c g y => f c g (by omega))) (k_RM hRM r6 (fun c g y => f c g (by omega)) (Int.le_of_eq (f 0 5 (by omega)).symm) (Int.le_of_eq (f 0 7 (by omega)).symm)) (THn_c hT1 (fun c g y1 y2 => f c g (by omega)) (fun g => r 284 g (by omega)) (Nat.le_add_right _ _)) (THn_c hT2 (fun c g y1 y2 => f c g (by omega)) (fun g => r 294 g (by omega)) (Nat.le_add_right _ _)) (k_ST hST h12 (Int.le_of_eq (f 0 5 (by omega)).symm) (fun c g y => f c g (by omega)) (fun c i y1 y2 => r c i (by omega)) (k_SP h12 (fun c g y => f c g (by omega)) (fun c g y1 y2 => l c g (by omega)))) (ZR_c hZR (fun c g y => f c g (by omega))) hC hZ
theorem st_s (h : INV k S)  (hF : sp_FS S S2) : INV (k + 1) S2 := by
  have h0 := h
  obtain ⟨D, ⟨hDR, hPA, hPT, hTR⟩, ⟨hLG, hB8, hRR, hRM⟩, ⟨hT1, hT2⟩, ⟨hST, hZR⟩, hC0, hZ0⟩ := h
  have r6 := RR_6 hRR
  have h12 : S.1 0 5 ≤ 12 := hPT.1.2.1
  have f : ∀ c g, ¬ ((c = 621 ∧ (g = 0 ∨ (73 ≤ g ∧ g ≤ 105))) ∨ (281 ≤ c ∧ c ≤ 283) ∨ (678 ≤ c ∧ c ≤ 699)) → S2.1 c g = S.1 c g := fun c g y => hF.1 c g (by
    intro z
    unfold sp_WS at z
    omega)
  have l : ∀ c g, c ≠ 723 → S2.2.1 c g = S.2.1 c g := fun c g y => hF.2.1 c g y
  have r : ∀ c g, ¬ (c = 281) → S2.2.2.1 c g = S.2.2.1 c g := fun c g y => hF.2.2.1 c g (by omega)
  have hN : ev_sN S2 = ev_sN S := hF.2.2.2.2.1
  have hc1 : ev_sC S2 ≤ ev_sC S + 1 := hF.2.2.2.2.2.1
  have hz1 : ev_sZ S2 ≤ ev_sZ S + 6 := hF.2.2.2.2.2.2
  have hC : ev_sC S2 + ev_sN S ≤ ev_sC S + ev_sN S2 + 1 := by
    rw [hN]
    omega
  have hZ : ev_sZ S2 + 1024 * ev_sN S ≤ ev_sZ S + 1024 * ev_sN S2 + 6 := by
    rw [hN]
    omega
  exact INV_mk h0 (DR_c2 (fun c g y => f c g (by omega)) hDR) (PA_c2 (fun c g y => f c g (by omega)) hPA) (k_PT hPT (fun c g y => f c g (by omega)) (fun c g y => l c g (by omega))) (k_TR hTR (fun c g y => f c g (by omega))) (k_LG hLG (fun c g y => f c g (by omega)) (fun a j y => r a j (by omega)) hN) (k_B8 hB8 (fun c g y => f c g (by omega))) (RR_c hRR (fun c g y => f c g (by omega))) (k_RM hRM r6 (fun c g y => f c g (by omega)) (Int.le_of_eq (f 0 5 (by omega)).symm) (Int.le_of_eq (f 0 7 (by omega)).symm)) (THn_c hT1 (fun c g y1 y2 => f c g (by omega)) (fun g => r 284 g (by omega)) (Nat.le_add_right _ _)) (THn_c hT2 (fun c g y1 y2 => f c g (by omega)) (fun g => r 294 g (by omega)) (Nat.le_add_right _ _)) (k_ST hST h12 (Int.le_of_eq (f 0 5 (by omega)).symm) (fun c g y => f c g (by omega)) (fun c i y1 y2 => r c i (by omega)) (k_SP h12 (fun c g y => f c g (by omega)) (fun c g y1 y2 => l c g (by omega)))) (ZR_c hZR (fun c g y => f c g (by omega))) hC hZ
theorem st_0 (h : INV k S) (c1 : sp_DR S2) (hF : sp_F sp_W0 S S2) : INV (k + 1) S2 := by
  have h0 := h
  obtain ⟨D, ⟨hDR, hPA, hPT, hTR⟩, ⟨hLG, hB8, hRR, hRM⟩, ⟨hT1, hT2⟩, ⟨hST, hZR⟩, hC0, hZ0⟩ := h
  have r6 := RR_6 hRR
  have h12 : S.1 0 5 ≤ 12 := hPT.1.2.1
  have f : ∀ c g, ¬ (c = 2 ∨ c = 622 ∨ (c = 1 ∧ g = 1) ∨ (c = 621 ∧ g ≤ 1)) → S2.1 c g = S.1 c g := fun c g y => hF.1 c g (by
    intro z
    unfold sp_W0 at z
    omega)
  have l : ∀ c g, c ≠ 723 → S2.2.1 c g = S.2.1 c g := fun c g y => hF.2.1 c g y
  have r : ∀ c g, c ≠ 99999 → S2.2.2.1 c g = S.2.2.1 c g := fun c g _ => by rw [hF.2.2.1]
  have hN : ev_sN S2 = ev_sN S := hF.2.2.2.2.1
  have hc1 : ev_sC S2 ≤ ev_sC S + 1 := hF.2.2.2.2.2.1
  have hz1 : ev_sZ S2 ≤ ev_sZ S + 6 := hF.2.2.2.2.2.2
  have hC : ev_sC S2 + ev_sN S ≤ ev_sC S + ev_sN S2 + 1 := by
    rw [hN]
    omega
  have hZ : ev_sZ S2 + 1024 * ev_sN S ≤ ev_sZ S + 1024 * ev_sN S2 + 6 := by
    rw [hN]
    omega
  exact INV_mk h0 (c1) (PA_c2 (fun c g y => f c g (by omega)) hPA) (k_PT hPT (fun c g y => f c g (by omega)) (fun c g y => l c g (by omega))) (k_TR hTR (fun c g y => f c g (by omega))) (k_LG hLG (fun c g y => f c g (by omega)) (fun a j y => r a j (by omega)) hN) (k_B8 hB8 (fun c g y => f c g (by omega))) (RR_c hRR (fun c g y => f c g (by omega))) (k_RM hRM r6 (fun c g y => f c g (by omega)) (Int.le_of_eq (f 0 5 (by omega)).symm) (Int.le_of_eq (f 0 7 (by omega)).symm)) (THn_c hT1 (fun c g y1 y2 => f c g (by omega)) (fun g => r 284 g (by omega)) (Nat.le_add_right _ _)) (THn_c hT2 (fun c g y1 y2 => f c g (by omega)) (fun g => r 294 g (by omega)) (Nat.le_add_right _ _)) (k_ST hST h12 (Int.le_of_eq (f 0 5 (by omega)).symm) (fun c g y => f c g (by omega)) (fun c i y1 y2 => r c i (by omega)) (k_SP h12 (fun c g y => f c g (by omega)) (fun c g y1 y2 => l c g (by omega)))) (ZR_c hZR (fun c g y => f c g (by omega))) hC hZ
theorem st_t (h : INV k S) (c1 : sp_DR S2) (c4 : sp_TR S2) (h7 : S.1 0 7 ≤ S2.1 0 7) (hF : sp_F sp_Wt S S2) : INV (k + 1) S2 := by
  have h0 := h
  obtain ⟨D, ⟨hDR, hPA, hPT, hTR⟩, ⟨hLG, hB8, hRR, hRM⟩, ⟨hT1, hT2⟩, ⟨hST, hZR⟩, hC0, hZ0⟩ := h
  have r6 := RR_6 hRR
  have h12 : S.1 0 5 ≤ 12 := hPT.1.2.1
  have f : ∀ c g, ¬ ((c = 0 ∧ g = 7) ∨ (c = 1 ∧ g = 1) ∨ (553 ≤ c ∧ c ≤ 568) ∨ (c = 621 ∧ (g = 0 ∨ g = 1 ∨ g = 110)) ∨ c = 700 ∨ c = 701) → S2.1 c g = S.1 c g := fun c g y => hF.1 c g (by
    intro z
    unfold sp_Wt at z
    omega)
  have l : ∀ c g, c ≠ 723 → S2.2.1 c g = S.2.1 c g := fun c g y => hF.2.1 c g y
  have r : ∀ c g, c ≠ 99999 → S2.2.2.1 c g = S.2.2.1 c g := fun c g _ => by rw [hF.2.2.1]
  have hN : ev_sN S2 = ev_sN S := hF.2.2.2.2.1
  have hc1 : ev_sC S2 ≤ ev_sC S + 1 := hF.2.2.2.2.2.1
  have hz1 : ev_sZ S2 ≤ ev_sZ S + 6 := hF.2.2.2.2.2.2
  have hC : ev_sC S2 + ev_sN S ≤ ev_sC S + ev_sN S2 + 1 := by
    rw [hN]
    omega
  have hZ : ev_sZ S2 + 1024 * ev_sN S ≤ ev_sZ S + 1024 * ev_sN S2 + 6 := by
    rw [hN]
    omega
  exact INV_mk h0 (c1) (PA_c2 (fun c g y => f c g (by omega)) hPA) (k_PT hPT (fun c g y => f c g (by omega)) (fun c g y => l c g (by omega))) (c4) (k_LG hLG (fun c g y => f c g (by omega)) (fun a j y => r a j (by omega)) hN) (k_B8 hB8 (fun c g y => f c g (by omega))) (RR_c hRR (fun c g y => f c g (by omega))) (k_RM hRM r6 (fun c g y => f c g (by omega)) (Int.le_of_eq (f 0 5 (by omega)).symm) h7) (THn_c hT1 (fun c g y1 y2 => f c g (by omega)) (fun g => r 284 g (by omega)) (Nat.le_add_right _ _)) (THn_c hT2 (fun c g y1 y2 => f c g (by omega)) (fun g => r 294 g (by omega)) (Nat.le_add_right _ _)) (k_ST hST h12 (Int.le_of_eq (f 0 5 (by omega)).symm) (fun c g y => f c g (by omega)) (fun c i y1 y2 => r c i (by omega)) (k_SP h12 (fun c g y => f c g (by omega)) (fun c g y1 y2 => l c g (by omega)))) (ZR_c hZR (fun c g y => f c g (by omega))) hC hZ
theorem st_e (h : INV k S) (c9 : THn 284 20 (90 * k + 90) S2) (c10 : THn 294 1 (90 * k + 90) S2) (hF : sp_FE S S2) : INV (k + 1) S2 := by
  have h0 := h
  obtain ⟨D, ⟨hDR, hPA, hPT, hTR⟩, ⟨hLG, hB8, hRR, hRM⟩, ⟨hT1, hT2⟩, ⟨hST, hZR⟩, hC0, hZ0⟩ := h
  have r6 := RR_6 hRR
  have h12 : S.1 0 5 ≤ 12 := hPT.1.2.1
  have f : ∀ c g, ¬ ((c = 621 ∧ (g = 0 ∨ (73 ≤ g ∧ g ≤ 105))) ∨ (281 ≤ c ∧ c ≤ 303) ∨ (669 ≤ c ∧ c ≤ 699)) → S2.1 c g = S.1 c g := fun c g y => hF.1 c g (by
    intro z
    unfold sp_WS at z
    omega) (by omega) (by omega)
  have l : ∀ c g, c ≠ 723 → S2.2.1 c g = S.2.1 c g := fun c g y => hF.2.1 c g y
  have r : ∀ c g, ¬ (c = 281 ∨ c = 284 ∨ c = 294) → S2.2.2.1 c g = S.2.2.1 c g := fun c g y => hF.2.2.1 c g (by omega) (by omega) (by omega)
  have hN : ev_sN S2 = ev_sN S := hF.2.2.2.2.1
  have hc1 : ev_sC S2 ≤ ev_sC S + 1 := hF.2.2.2.2.2.1
  have hz1 : ev_sZ S2 ≤ ev_sZ S + 6 := hF.2.2.2.2.2.2
  have hC : ev_sC S2 + ev_sN S ≤ ev_sC S + ev_sN S2 + 1 := by
    rw [hN]
    omega
  have hZ : ev_sZ S2 + 1024 * ev_sN S ≤ ev_sZ S + 1024 * ev_sN S2 + 6 := by
    rw [hN]
    omega
  exact INV_mk h0 (DR_c2 (fun c g y => f c g (by omega)) hDR) (PA_c2 (fun c g y => f c g (by omega)) hPA) (k_PT hPT (fun c g y => f c g (by omega)) (fun c g y => l c g (by omega))) (k_TR hTR (fun c g y => f c g (by omega))) (k_LG hLG (fun c g y => f c g (by omega)) (fun a j y => r a j (by omega)) hN) (k_B8 hB8 (fun c g y => f c g (by omega))) (RR_c hRR (fun c g y => f c g (by omega))) (k_RM hRM r6 (fun c g y => f c g (by omega)) (Int.le_of_eq (f 0 5 (by omega)).symm) (Int.le_of_eq (f 0 7 (by omega)).symm)) (c9) (c10) (k_ST hST h12 (Int.le_of_eq (f 0 5 (by omega)).symm) (fun c g y => f c g (by omega)) (fun c i y1 y2 => r c i (by omega)) (k_SP h12 (fun c g y => f c g (by omega)) (fun c g y1 y2 => l c g (by omega)))) (ZR_c hZR (fun c g y => f c g (by omega))) hC hZ
theorem st_g (h : INV k S) (c1 : sp_DR S2) (c5 : LG_g ((k : Int) + 1) D' S2) (c6 : B8 D' S2 S2) (hF : sp_G sp_We S S2) : INV (k + 1) S2 := by
  have h0 := h
  obtain ⟨D, ⟨hDR, hPA, hPT, hTR⟩, ⟨hLG, hB8, hRR, hRM⟩, ⟨hT1, hT2⟩, ⟨hST, hZR⟩, hC0, hZ0⟩ := h
  have r6 := RR_6 hRR
  have h12 : S.1 0 5 ≤ 12 := hPT.1.2.1
  have f : ∀ c g, ¬ ((c = 1 ∧ g = 1) ∨ (c = 621 ∧ (g = 0 ∨ g = 1 ∨ (125 ≤ g ∧ g ≤ 131))) ∨ (c = 254 ∧ 9 ≤ g ∧ g ≤ 13) ∨ c = 258 ∨ (261 ≤ c ∧ c ≤ 268) ∨ (707 ≤ c ∧ c ≤ 715) ∨ 724 ≤ c) → S2.1 c g = S.1 c g := fun c g y => hF.1 c g (by omega) (by
    intro z
    unfold sp_We at z
    omega)
  have l : ∀ c g, c ≠ 723 → S2.2.1 c g = S.2.1 c g := fun c g y => hF.2.1 c g y
  have r : ∀ c g, ¬ (c = 259 ∨ c = 260) → S2.2.2.1 c g = S.2.2.1 c g := fun c g y => hF.2.2.1 c g (by omega) (by omega)
  have hC : ev_sC S2 + ev_sN S ≤ ev_sC S + ev_sN S2 + 1 := hF.2.2.2.1
  have hZ : ev_sZ S2 + 1024 * ev_sN S ≤ ev_sZ S + 1024 * ev_sN S2 + 6 := hF.2.2.2.2
  exact INV_mk h0 (c1) (PA_c2 (fun c g y => f c g (by omega)) hPA) (k_PT hPT (fun c g y => f c g (by omega)) (fun c g y => l c g (by omega))) (k_TR hTR (fun c g y => f c g (by omega))) (c5) (c6) (RR_c hRR (fun c g y => f c g (by omega))) (k_RM hRM r6 (fun c g y => f c g (by omega)) (Int.le_of_eq (f 0 5 (by omega)).symm) (Int.le_of_eq (f 0 7 (by omega)).symm)) (THn_c hT1 (fun c g y1 y2 => f c g (by omega)) (fun g => r 284 g (by omega)) (Nat.le_add_right _ _)) (THn_c hT2 (fun c g y1 y2 => f c g (by omega)) (fun g => r 294 g (by omega)) (Nat.le_add_right _ _)) (k_ST hST h12 (Int.le_of_eq (f 0 5 (by omega)).symm) (fun c g y => f c g (by omega)) (fun c i y1 y2 => r c i (by omega)) (k_SP h12 (fun c g y => f c g (by omega)) (fun c g y1 y2 => l c g (by omega)))) (ZR_c hZR (fun c g y => f c g (by omega))) hC hZ
theorem st_r (h : INV k S) (c5 : LG_g ((k : Int) + 1) D' S2) (c6 : B8 D' S2 S2) (c7 : sp_RR S2) (c8 : sp_RM S2) (hF : sp_GR S S2) : INV (k + 1) S2 := by
  have h0 := h
  obtain ⟨D, ⟨hDR, hPA, hPT, hTR⟩, ⟨hLG, hB8, hRR, hRM⟩, ⟨hT1, hT2⟩, ⟨hST, hZR⟩, hC0, hZ0⟩ := h
  have r6 := RR_6 hRR
  have h12 : S.1 0 5 ≤ 12 := hPT.1.2.1
  have f : ∀ c g, ¬ ((c = 254 ∧ 9 ≤ g ∧ g ≤ 13) ∨ c = 258 ∨ (261 ≤ c ∧ c ≤ 283) ∨ (305 ≤ c ∧ c ≤ 311) ∨ (c = 621 ∧ (g = 0 ∨ (73 ≤ g ∧ g ≤ 105) ∨ g = 113 ∨ (125 ≤ g ∧ g ≤ 131))) ∨ (678 ≤ c ∧ c ≤ 699) ∨ (702 ≤ c ∧ c ≤ 717) ∨ 724 ≤ c) → S2.1 c g = S.1 c g := fun c g y => hF.1 c g (by omega) (by
    intro z
    unfold sp_W20 at z
    omega)
  have l : ∀ c g, c ≠ 723 → S2.2.1 c g = S.2.1 c g := fun c g y => hF.2.1 c g y
  have r : ∀ c g, ¬ (c = 259 ∨ c = 260 ∨ c = 281) → S2.2.2.1 c g = S.2.2.1 c g := fun c g y => hF.2.2.1 c g (by omega) (by omega) (by omega)
  have hC : ev_sC S2 + ev_sN S ≤ ev_sC S + ev_sN S2 + 1 := hF.2.2.2.1
  have hZ : ev_sZ S2 + 1024 * ev_sN S ≤ ev_sZ S + 1024 * ev_sN S2 + 6 := hF.2.2.2.2
  exact INV_mk h0 (DR_c2 (fun c g y => f c g (by omega)) hDR) (PA_c2 (fun c g y => f c g (by omega)) hPA) (k_PT hPT (fun c g y => f c g (by omega)) (fun c g y => l c g (by omega))) (k_TR hTR (fun c g y => f c g (by omega))) (c5) (c6) (c7) (c8) (THn_c hT1 (fun c g y1 y2 => f c g (by omega)) (fun g => r 284 g (by omega)) (Nat.le_add_right _ _)) (THn_c hT2 (fun c g y1 y2 => f c g (by omega)) (fun g => r 294 g (by omega)) (Nat.le_add_right _ _)) (k_ST hST h12 (Int.le_of_eq (f 0 5 (by omega)).symm) (fun c g y => f c g (by omega)) (fun c i y1 y2 => r c i (by omega)) (k_SP h12 (fun c g y => f c g (by omega)) (fun c g y1 y2 => l c g (by omega)))) (ZR_c hZR (fun c g y => f c g (by omega))) hC hZ
theorem st_m (h : INV k S) (c5 : sp_MR S2) (hF : sp_F sp_Wm S S2) : INV (k + 1) S2 := by
  have h0 := h
  obtain ⟨D, ⟨hDR, hPA, hPT, hTR⟩, ⟨hLG, hB8, hRR, hRM⟩, ⟨hT1, hT2⟩, ⟨hST, hZR⟩, hC0, hZ0⟩ := h
  have r6 := RR_6 hRR
  have h12 : S.1 0 5 ≤ 12 := hPT.1.2.1
  have f : ∀ c g, ¬ ((c = 621 ∧ (g = 0 ∨ g = 121)) ∨ (256 ≤ c ∧ c ≤ 258) ∨ (c = 254 ∧ g = 4) ∨ (709 ≤ c ∧ c ≤ 711)) → S2.1 c g = S.1 c g := fun c g y => hF.1 c g (by
    intro z
    unfold sp_Wm at z
    omega)
  have l : ∀ c g, c ≠ 723 → S2.2.1 c g = S.2.1 c g := fun c g y => hF.2.1 c g y
  have r : ∀ c g, c ≠ 99999 → S2.2.2.1 c g = S.2.2.1 c g := fun c g _ => by rw [hF.2.2.1]
  have hN : ev_sN S2 = ev_sN S := hF.2.2.2.2.1
  have hc1 : ev_sC S2 ≤ ev_sC S + 1 := hF.2.2.2.2.2.1
  have hz1 : ev_sZ S2 ≤ ev_sZ S + 6 := hF.2.2.2.2.2.2
  have hC : ev_sC S2 + ev_sN S ≤ ev_sC S + ev_sN S2 + 1 := by
    rw [hN]
    omega
  have hZ : ev_sZ S2 + 1024 * ev_sN S ≤ ev_sZ S + 1024 * ev_sN S2 + 6 := by
    rw [hN]
    omega
  exact INV_mk h0 (DR_c2 (fun c g y => f c g (by omega)) hDR) (PA_c2 (fun c g y => f c g (by omega)) hPA) (k_PT hPT (fun c g y => f c g (by omega)) (fun c g y => l c g (by omega))) (k_TR hTR (fun c g y => f c g (by omega))) (k_LG1 (LG_M_g hLG hF c5)) (k_B8 hB8 (fun c g y => f c g (by omega))) (RR_c hRR (fun c g y => f c g (by omega))) (k_RM hRM r6 (fun c g y => f c g (by omega)) (Int.le_of_eq (f 0 5 (by omega)).symm) (Int.le_of_eq (f 0 7 (by omega)).symm)) (THn_c hT1 (fun c g y1 y2 => f c g (by omega)) (fun g => r 284 g (by omega)) (Nat.le_add_right _ _)) (THn_c hT2 (fun c g y1 y2 => f c g (by omega)) (fun g => r 294 g (by omega)) (Nat.le_add_right _ _)) (k_ST hST h12 (Int.le_of_eq (f 0 5 (by omega)).symm) (fun c g y => f c g (by omega)) (fun c i y1 y2 => r c i (by omega)) (k_SP h12 (fun c g y => f c g (by omega)) (fun c g y1 y2 => l c g (by omega)))) (ZR_c hZR (fun c g y => f c g (by omega))) hC hZ
theorem st_l (h : INV k S) (c5 : LG_g (k : Int) D' S2) (c6 : B8 D' S2 S2) (hF : sp_F sp_Wl S S2) : INV (k + 1) S2 := by
  have h0 := h
  obtain ⟨D, ⟨hDR, hPA, hPT, hTR⟩, ⟨hLG, hB8, hRR, hRM⟩, ⟨hT1, hT2⟩, ⟨hST, hZR⟩, hC0, hZ0⟩ := h
  have r6 := RR_6 hRR
  have h12 : S.1 0 5 ≤ 12 := hPT.1.2.1
  have f : ∀ c g, ¬ ((c = 621 ∧ (g = 0 ∨ (125 ≤ g ∧ g ≤ 132))) ∨ (c = 254 ∧ 11 ≤ g ∧ g ≤ 14) ∨ c = 261 ∨ c = 714 ∨ c = 715) → S2.1 c g = S.1 c g := fun c g y => hF.1 c g (by
    intro z
    unfold sp_Wl at z
    omega)
  have l : ∀ c g, c ≠ 723 → S2.2.1 c g = S.2.1 c g := fun c g y => hF.2.1 c g y
  have r : ∀ c g, c ≠ 99999 → S2.2.2.1 c g = S.2.2.1 c g := fun c g _ => by rw [hF.2.2.1]
  have hN : ev_sN S2 = ev_sN S := hF.2.2.2.2.1
  have hc1 : ev_sC S2 ≤ ev_sC S + 1 := hF.2.2.2.2.2.1
  have hz1 : ev_sZ S2 ≤ ev_sZ S + 6 := hF.2.2.2.2.2.2
  have hC : ev_sC S2 + ev_sN S ≤ ev_sC S + ev_sN S2 + 1 := by
    rw [hN]
    omega
  have hZ : ev_sZ S2 + 1024 * ev_sN S ≤ ev_sZ S + 1024 * ev_sN S2 + 6 := by
    rw [hN]
    omega
  exact INV_mk h0 (DR_c2 (fun c g y => f c g (by omega)) hDR) (PA_c2 (fun c g y => f c g (by omega)) hPA) (k_PT hPT (fun c g y => f c g (by omega)) (fun c g y => l c g (by omega))) (k_TR hTR (fun c g y => f c g (by omega))) (k_LG1 c5) (c6) (RR_c hRR (fun c g y => f c g (by omega))) (k_RM hRM r6 (fun c g y => f c g (by omega)) (Int.le_of_eq (f 0 5 (by omega)).symm) (Int.le_of_eq (f 0 7 (by omega)).symm)) (THn_c hT1 (fun c g y1 y2 => f c g (by omega)) (fun g => r 284 g (by omega)) (Nat.le_add_right _ _)) (THn_c hT2 (fun c g y1 y2 => f c g (by omega)) (fun g => r 294 g (by omega)) (Nat.le_add_right _ _)) (k_ST hST h12 (Int.le_of_eq (f 0 5 (by omega)).symm) (fun c g y => f c g (by omega)) (fun c i y1 y2 => r c i (by omega)) (k_SP h12 (fun c g y => f c g (by omega)) (fun c g y1 y2 => l c g (by omega)))) (ZR_c hZR (fun c g y => f c g (by omega))) hC hZ
theorem st_u (h : INV k S) (c5 : LG_g (k : Int) D' S2) (c6 : B8 D' S2 S2) (hF : sp_F sp_Wu S S2) : INV (k + 1) S2 := by
  have h0 := h
  obtain ⟨D, ⟨hDR, hPA, hPT, hTR⟩, ⟨hLG, hB8, hRR, hRM⟩, ⟨hT1, hT2⟩, ⟨hST, hZR⟩, hC0, hZ0⟩ := h
  have r6 := RR_6 hRR
  have h12 : S.1 0 5 ≤ 12 := hPT.1.2.1
  have f : ∀ c g, ¬ (c = 258 ∨ (262 ≤ c ∧ c ≤ 268) ∨ (c = 254 ∧ 9 ≤ g ∧ g ≤ 13) ∨ (c = 621 ∧ (g = 0 ∨ g = 130)) ∨ c = 707 ∨ c = 708 ∨ c = 710) → S2.1 c g = S.1 c g := fun c g y => hF.1 c g (by
    intro z
    unfold sp_Wu at z
    omega)
  have l : ∀ c g, c ≠ 723 → S2.2.1 c g = S.2.1 c g := fun c g y => hF.2.1 c g y
  have r : ∀ c g, c ≠ 99999 → S2.2.2.1 c g = S.2.2.1 c g := fun c g _ => by rw [hF.2.2.1]
  have hN : ev_sN S2 = ev_sN S := hF.2.2.2.2.1
  have hc1 : ev_sC S2 ≤ ev_sC S + 1 := hF.2.2.2.2.2.1
  have hz1 : ev_sZ S2 ≤ ev_sZ S + 6 := hF.2.2.2.2.2.2
  have hC : ev_sC S2 + ev_sN S ≤ ev_sC S + ev_sN S2 + 1 := by
    rw [hN]
    omega
  have hZ : ev_sZ S2 + 1024 * ev_sN S ≤ ev_sZ S + 1024 * ev_sN S2 + 6 := by
    rw [hN]
    omega
  exact INV_mk h0 (DR_c2 (fun c g y => f c g (by omega)) hDR) (PA_c2 (fun c g y => f c g (by omega)) hPA) (k_PT hPT (fun c g y => f c g (by omega)) (fun c g y => l c g (by omega))) (k_TR hTR (fun c g y => f c g (by omega))) (k_LG1 c5) (c6) (RR_c hRR (fun c g y => f c g (by omega))) (k_RM hRM r6 (fun c g y => f c g (by omega)) (Int.le_of_eq (f 0 5 (by omega)).symm) (Int.le_of_eq (f 0 7 (by omega)).symm)) (THn_c hT1 (fun c g y1 y2 => f c g (by omega)) (fun g => r 284 g (by omega)) (Nat.le_add_right _ _)) (THn_c hT2 (fun c g y1 y2 => f c g (by omega)) (fun g => r 294 g (by omega)) (Nat.le_add_right _ _)) (k_ST hST h12 (Int.le_of_eq (f 0 5 (by omega)).symm) (fun c g y => f c g (by omega)) (fun c i y1 y2 => r c i (by omega)) (k_SP h12 (fun c g y => f c g (by omega)) (fun c g y1 y2 => l c g (by omega)))) (ZR_c hZR (fun c g y => f c g (by omega))) hC hZ
theorem st_q (h : INV k S) (c7 : sp_RR S2) (hF : sp_F sp_Wr S S2) : INV (k + 1) S2 := by
  have h0 := h
  obtain ⟨D, ⟨hDR, hPA, hPT, hTR⟩, ⟨hLG, hB8, hRR, hRM⟩, ⟨hT1, hT2⟩, ⟨hST, hZR⟩, hC0, hZ0⟩ := h
  have r6 := RR_6 hRR
  have h12 : S.1 0 5 ≤ 12 := hPT.1.2.1
  have f : ∀ c g, ¬ ((c = 621 ∧ (g = 0 ∨ g = 135 ∨ g = 136)) ∨ (c = 0 ∧ (g = 15 ∨ g = 16)) ∨ c = 716) → S2.1 c g = S.1 c g := fun c g y => hF.1 c g (by
    intro z
    unfold sp_Wr at z
    omega)
  have l : ∀ c g, c ≠ 723 → S2.2.1 c g = S.2.1 c g := fun c g y => hF.2.1 c g y
  have r : ∀ c g, c ≠ 99999 → S2.2.2.1 c g = S.2.2.1 c g := fun c g _ => by rw [hF.2.2.1]
  have c8 : sp_RM S2 := fun g hg => by
    have r62 := RR_6 c7
    rw [f 311 g (by omega)]
    by_cases z : (g : Int) < S.1 0 15 + S.1 0 16
    · obtain ⟨y1, y2⟩ := hRM g z
      refine ⟨y1, fun i hi => ?_⟩
      rw [f 717 _ (by omega), f 717 _ (by omega), f 717 _ (by omega), f (305 + g) _ (by omega), f (305 + g) _ (by omega), f (305 + g) _ (by omega), f 0 5 (by omega), f 0 7 (by omega)]
      exact y2 i hi
    · have e := hRR.2.2.2.2.2 g (by omega)
      rw [e]
      exact ⟨⟨by decide, by decide⟩, fun i hi => by omega⟩
  have hN : ev_sN S2 = ev_sN S := hF.2.2.2.2.1
  have hc1 : ev_sC S2 ≤ ev_sC S + 1 := hF.2.2.2.2.2.1
  have hz1 : ev_sZ S2 ≤ ev_sZ S + 6 := hF.2.2.2.2.2.2
  have hC : ev_sC S2 + ev_sN S ≤ ev_sC S + ev_sN S2 + 1 := by
    rw [hN]
    omega
  have hZ : ev_sZ S2 + 1024 * ev_sN S ≤ ev_sZ S + 1024 * ev_sN S2 + 6 := by
    rw [hN]
    omega
  exact INV_mk h0 (DR_c2 (fun c g y => f c g (by omega)) hDR) (PA_c2 (fun c g y => f c g (by omega)) hPA) (k_PT hPT (fun c g y => f c g (by omega)) (fun c g y => l c g (by omega))) (k_TR hTR (fun c g y => f c g (by omega))) (k_LG hLG (fun c g y => f c g (by omega)) (fun a j y => r a j (by omega)) hN) (k_B8 hB8 (fun c g y => f c g (by omega))) (c7) (c8) (THn_c hT1 (fun c g y1 y2 => f c g (by omega)) (fun g => r 284 g (by omega)) (Nat.le_add_right _ _)) (THn_c hT2 (fun c g y1 y2 => f c g (by omega)) (fun g => r 294 g (by omega)) (Nat.le_add_right _ _)) (k_ST hST h12 (Int.le_of_eq (f 0 5 (by omega)).symm) (fun c g y => f c g (by omega)) (fun c i y1 y2 => r c i (by omega)) (k_SP h12 (fun c g y => f c g (by omega)) (fun c g y1 y2 => l c g (by omega)))) (ZR_c hZR (fun c g y => f c g (by omega))) hC hZ
theorem st_f (h : INV k S) (c1 : sp_DR S2) (c11 : sp_ST (90 * k + 90) S2) (hF : sp_FT S S2) : INV (k + 1) S2 := by
  have h0 := h
  obtain ⟨D, ⟨hDR, hPA, hPT, hTR⟩, ⟨hLG, hB8, hRR, hRM⟩, ⟨hT1, hT2⟩, ⟨hST, hZR⟩, hC0, hZ0⟩ := h
  have r6 := RR_6 hRR
  have h12 : S.1 0 5 ≤ 12 := hPT.1.2.1
  have f : ∀ c g, ¬ ((c = 621 ∧ (g = 0 ∨ g = 1 ∨ g = 68 ∨ g = 139)) ∨ (669 ≤ c ∧ c ≤ 677) ∨ (569 ≤ c ∧ c ≤ 620) ∨ (718 ≤ c ∧ c ≤ 722) ∨ (c = 1 ∧ g = 1) ∨ (c = 0 ∧ g = 18)) → S2.1 c g = S.1 c g := fun c g y => hF.1 c g (by
    intro z
    unfold sp_WT at z
    omega)
  have l : ∀ c g, c ≠ 723 → S2.2.1 c g = S.2.1 c g := fun c g y => hF.2.1 c g y
  have r : ∀ c g, ¬ (569 ≤ c ∧ c ≤ 620) → S2.2.2.1 c g = S.2.2.1 c g := fun c g y => hF.2.2.1 c g (by omega)
  have hN : ev_sN S2 = ev_sN S := hF.2.2.2.2.1
  have hc1 : ev_sC S2 ≤ ev_sC S + 1 := hF.2.2.2.2.2.1
  have hz1 : ev_sZ S2 ≤ ev_sZ S + 6 := hF.2.2.2.2.2.2
  have hC : ev_sC S2 + ev_sN S ≤ ev_sC S + ev_sN S2 + 1 := by
    rw [hN]
    omega
  have hZ : ev_sZ S2 + 1024 * ev_sN S ≤ ev_sZ S + 1024 * ev_sN S2 + 6 := by
    rw [hN]
    omega
  exact INV_mk h0 (c1) (PA_c2 (fun c g y => f c g (by omega)) hPA) (k_PT hPT (fun c g y => f c g (by omega)) (fun c g y => l c g (by omega))) (k_TR hTR (fun c g y => f c g (by omega))) (k_LG hLG (fun c g y => f c g (by omega)) (fun a j y => r a j (by omega)) hN) (k_B8 hB8 (fun c g y => f c g (by omega))) (RR_c hRR (fun c g y => f c g (by omega))) (k_RM hRM r6 (fun c g y => f c g (by omega)) (Int.le_of_eq (f 0 5 (by omega)).symm) (Int.le_of_eq (f 0 7 (by omega)).symm)) (THn_c hT1 (fun c g y1 y2 => f c g (by omega)) (fun g => r 284 g (by omega)) (Nat.le_add_right _ _)) (THn_c hT2 (fun c g y1 y2 => f c g (by omega)) (fun g => r 294 g (by omega)) (Nat.le_add_right _ _)) (c11) (ZR_c hZR (fun c g y => f c g (by omega))) hC hZ
theorem st_2 (h : INV k S) (c1 : sp_DR S2) (c2 : sp_PA S2) (hF : sp_H sp_W2 S S2) : INV (k + 1) S2 := by
  have h0 := h
  obtain ⟨D, ⟨hDR, hPA, hPT, hTR⟩, ⟨hLG, hB8, hRR, hRM⟩, ⟨hT1, hT2⟩, ⟨hST, hZR⟩, hC0, hZ0⟩ := h
  have r6 := RR_6 hRR
  have h12 : S.1 0 5 ≤ 12 := hPT.1.2.1
  have f : ∀ c g, ¬ (c = 3 ∨ (5 ≤ c ∧ c ≤ 168) ∨ (232 ≤ c ∧ c ≤ 244) ∨ (c = 1 ∧ g = 1) ∨ (169 ≤ c ∧ c < 221) ∨ (c = 621 ∧ (g ≤ 1 ∨ (25 ≤ g ∧ g ≤ 42))) ∨ c = 623 ∨ c = 624 ∨ (625 ≤ c ∧ c ≤ 632 ∧ 3840 ≤ g) ∨ c = 633 ∨ c = 634 ∨ (635 ≤ c ∧ c ≤ 636 ∧ 12 ≤ g) ∨ (c = 637 ∧ 120 ≤ g) ∨ (c = 638 ∧ 312 ≤ g) ∨ (644 ≤ c ∧ c ≤ 657)) → S2.1 c g = S.1 c g := fun c g y => hF.1 c g (by
    intro z
    unfold sp_W2 Wk Rk LOWc at z
    omega)
  have l : ∀ c g, ¬ (c = 3 ∨ (6 ≤ c ∧ c ≤ 168) ∨ (232 ≤ c ∧ c ≤ 244) ∨ c = 723 ∨ c = 621 ∨ (625 ≤ c ∧ c ≤ 632) ∨ (633 ≤ c ∧ c ≤ 634 ∧ 3840 ≤ g) ∨ (635 ≤ c ∧ c ≤ 657)) → S2.2.1 c g = S.2.1 c g := fun c g y => hF.2.1 c g (by
    intro z
    unfold sp_W2 Wk Rk at z
    omega)
  have r : ∀ c g, ¬ (c = 3 ∨ c = 6 ∨ c = 15) → S2.2.2.1 c g = S.2.2.1 c g := fun c g y => hF.2.2.1 c g (by
    intro z
    unfold sp_W2 at z
    omega)
  have hN : ev_sN S2 = ev_sN S := hF.2.2.2.2.1
  have hc1 : ev_sC S2 ≤ ev_sC S + 1 := hF.2.2.2.2.2.1
  have hz1 : ev_sZ S2 ≤ ev_sZ S + 6 := hF.2.2.2.2.2.2
  have hC : ev_sC S2 + ev_sN S ≤ ev_sC S + ev_sN S2 + 1 := by
    rw [hN]
    omega
  have hZ : ev_sZ S2 + 1024 * ev_sN S ≤ ev_sZ S + 1024 * ev_sN S2 + 6 := by
    rw [hN]
    omega
  exact INV_mk h0 (c1) (c2) (k_PT hPT (fun c g y => f c g (by omega)) (fun c g y => l c g (by omega))) (k_TR hTR (fun c g y => f c g (by omega))) (k_LG hLG (fun c g y => f c g (by omega)) (fun a j y => r a j (by omega)) hN) (k_B8 hB8 (fun c g y => f c g (by omega))) (RR_c hRR (fun c g y => f c g (by omega))) (k_RM hRM r6 (fun c g y => f c g (by omega)) (Int.le_of_eq (f 0 5 (by omega)).symm) (Int.le_of_eq (f 0 7 (by omega)).symm)) (THn_c hT1 (fun c g y1 y2 => f c g (by omega)) (fun g => r 284 g (by omega)) (Nat.le_add_right _ _)) (THn_c hT2 (fun c g y1 y2 => f c g (by omega)) (fun g => r 294 g (by omega)) (Nat.le_add_right _ _)) (k_ST hST h12 (Int.le_of_eq (f 0 5 (by omega)).symm) (fun c g y => f c g (by omega)) (fun c i y1 y2 => r c i (by omega)) (k_SP h12 (fun c g y => f c g (by omega)) (fun c g y1 y2 => l c g (by omega)))) (ZR_c hZR (fun c g y => f c g (by omega))) hC hZ
theorem st_3 (h : INV k S) (c1 : sp_DR S2) (c2 : sp_PA S2) (c3 : sp_PT S2) (c12 : sp_ZR S → sp_ZR S2) (h5 : S.1 0 5 ≤ S2.1 0 5) (hp : ∀ p : Nat, (p : Int) < S.1 0 5 → (∀ c g, 313 + 20 * p ≤ c → c ≤ 313 + 20 * p + 19 → S2.1 c g = S.1 c g ∧ S2.2.1 c g = S.2.1 c g) ∧ ∀ c g, 662 ≤ c → c ≤ 664 → 210 * p ≤ g → g < 210 * p + 210 → S2.1 c g = S.1 c g) (hF : sp_H sp_W3 S S2) : INV (k + 1) S2 := by
  have h0 := h
  obtain ⟨D, ⟨hDR, hPA, hPT, hTR⟩, ⟨hLG, hB8, hRR, hRM⟩, ⟨hT1, hT2⟩, ⟨hST, hZR⟩, hC0, hZ0⟩ := h
  have r6 := RR_6 hRR
  have h12 : S.1 0 5 ≤ 12 := hPT.1.2.1
  have f : ∀ c g, ¬ ((c = 0 ∧ g = 5) ∨ (c = 1 ∧ g = 1) ∨ c = 3 ∨ (6 ≤ c ∧ c ≤ 168) ∨ (222 ≤ c ∧ c ≤ 231) ∨ (313 ≤ c ∧ c < 553) ∨ (c = 621 ∧ (g = 0 ∨ g = 1 ∨ g = 5 ∨ (25 ≤ g ∧ g ≤ 42) ∨ g = 54 ∨ g = 59)) ∨ (625 ≤ c ∧ c ≤ 657) ∨ (662 ≤ c ∧ c ≤ 668)) → S2.1 c g = S.1 c g := fun c g y => hF.1 c g (by
    intro z
    unfold sp_W3 W3i at z
    omega)
  have r : ∀ c g, ¬ (c = 3 ∨ c = 6 ∨ c = 15 ∨ c = 221) → S2.2.2.1 c g = S.2.2.1 c g := fun c g y => hF.2.2.1 c g (by
    intro z
    unfold sp_W3 at z
    omega)
  have hN : ev_sN S2 = ev_sN S := hF.2.2.2.2.1
  have hc1 : ev_sC S2 ≤ ev_sC S + 1 := hF.2.2.2.2.2.1
  have hz1 : ev_sZ S2 ≤ ev_sZ S + 6 := hF.2.2.2.2.2.2
  have hC : ev_sC S2 + ev_sN S ≤ ev_sC S + ev_sN S2 + 1 := by
    rw [hN]
    omega
  have hZ : ev_sZ S2 + 1024 * ev_sN S ≤ ev_sZ S + 1024 * ev_sN S2 + 6 := by
    rw [hN]
    omega
  exact INV_mk h0 (c1) (c2) (c3) (k_TR hTR (fun c g y => f c g (by omega))) (k_LG hLG (fun c g y => f c g (by omega)) (fun a j y => r a j (by omega)) hN) (k_B8 hB8 (fun c g y => f c g (by omega))) (RR_c hRR (fun c g y => f c g (by omega))) (k_RM hRM r6 (fun c g y => f c g (by omega)) h5 (Int.le_of_eq (f 0 7 (by omega)).symm)) (THn_c hT1 (fun c g y1 y2 => f c g (by omega)) (fun g => r 284 g (by omega)) (Nat.le_add_right _ _)) (THn_c hT2 (fun c g y1 y2 => f c g (by omega)) (fun g => r 294 g (by omega)) (Nat.le_add_right _ _)) (k_ST hST h12 h5 (fun c g y => f c g (by omega)) (fun c i y1 y2 => r c i (by omega)) hp) (c12 hZR) hC hZ
end OST
