/-! CLASSES OF CHARACTERS: the reference's steps -/
section REFC
variable {Q k w : Nat} {S T : ev_St}
theorem sp_249 (hk : k < 128) : jm_249 Q (k : Int) T = some ((), ev_pI (ev_pL (ev_pL T 653 k (T.2.1 653 k ||| T.2.1 621 41)) 654 k (T.2.1 654 k ||| T.2.1 621 42)) 656 k 1) := by
  obtain ⟨l1, l2, l3, l4, l5, l6, l7⟩ := al_R
  unfold jm_249
  rw [sp_if (by rw [l3]; omega), sp_b, sp_b, sp_b, sp_if (by rw [l3]; omega), sp_b, sp_if (by rw [l4]; omega), sp_b, sp_b, sp_b, sp_if (by rw [l4]; omega), sp_b, sp_if (by rw [l6]; omega), sp_b, Int.toNat_natCast, rdL_nk (by omega), rdL_nk (by omega)]
def sgl (c d : Int) : Int := if c = 92 then (if d = 110 ∨ ch_e d = 1 then 2 else 0) else if c = -1 ∨ c = 91 ∨ c = 93 ∨ c = 45 ∨ (c = 38 ∧ d = 38) then 0 else 1
def sga (c d : Int) : Int := if c = 92 then (if d = 110 then 10 else d) else c
theorem sp_250 {a : Int} (h : RT S w T) (ha : 0 ≤ a) (hp : 0 ≤ rpos T ∧ rpos T + a ≤ 390) : jm_250 Q a T = some (sgl (sp_at S w (rpos T + a)) (sp_at S w (rpos T + a + 1)), T) := by
  unfold jm_250
  rw [sp_233 h (by omega), sp_bd, sp_ck (by omega), sp_233 h (by omega), sp_bd, show rpos T + (a + 1) = rpos T + a + 1 from by omega]
  generalize sp_at S w (rpos T + a + 1) = d
  generalize sp_at S w (rpos T + a) = c
  have i3 := ch_e_i d
  simp only [sp_228, sp_bd]
  unfold sgl
  (repeat' split) <;> first | rfl | (exfalso; omega)
theorem sp_251 {a : Int} (h : RT S w T) (ha : 0 ≤ a) (hp : 0 ≤ rpos T ∧ rpos T + a ≤ 390) : jm_251 Q a T = some (sga (sp_at S w (rpos T + a)) (sp_at S w (rpos T + a + 1)), T) := by
  unfold jm_251
  rw [sp_ck (by omega), sp_233 h (by omega), sp_bd, sp_233 h (by omega), sp_bd, sp_233 h (by omega), sp_bd, show rpos T + (a + 1) = rpos T + a + 1 from by omega]
  unfold sga
  (repeat' split) <;> first | rfl | (exfalso; omega)
theorem RT_c {U : ev_St} (h : RT S w T) (h1 : ∀ a g, a = 622 ∨ a = 623 ∨ a = 624 ∨ a = 644 ∨ (a = 621 ∧ (g = 1 ∨ g = 28)) → U.1 a g = T.1 a g) : RT S w U := by
  obtain ⟨r0, r1, r2, r3, r4, r5, r6⟩ := h
  have e : ∀ p, rt_at U p = rt_at T p := fun p => by
    unfold rt_at
    rw [h1 621 28 (by omega), h1 644 _ (by omega), h1 623 _ (by omega), h1 624 _ (by omega), h1 621 1 (by omega), h1 622 _ (by omega)]
  unfold RT
  rw [h1 621 28 (by omega), h1 644 _ (by omega), h1 623 _ (by omega), h1 621 1 (by omega)]
  exact ⟨r0, r1, r2, r3, r4, r5, fun p hp => by rw [e]; exact r6 p hp⟩
theorem RT_cS {U : ev_St} (h : RT S w T) (h1 : ∀ g, U.1 w g = S.1 w g) (h2 : ∀ g, U.1 (w + 1) g = S.1 (w + 1) g) : RT U w T := by
  obtain ⟨r0, r1, r2, r3, r4, r5, r6⟩ := h
  have e : ∀ p, sp_at U w p = sp_at S w p := fun p => by
    unfold sp_at
    rw [h1, h2]
  unfold RT
  rw [h1]
  exact ⟨r0, r1, r2, r3, r4, r5, fun p hp => by rw [e]; exact r6 p hp⟩
/-- a class begins: at the level k -/
theorem sp_252 {p : Int} (h : RT S w T) (hk : k < 128) (hp : rpos T = p) (hp2 : 0 ≤ p ∧ p ≤ 300) : ∃ T', jm_252 Q (k : Int) T = some ((), T') ∧ (rpos T' = if sp_at S w (p + 1) = 94 then p + 2 else p + 1) ∧ (T'.1 655 k = if sp_at S w (p + 1) = 94 then 1 else 0) ∧ T'.1 656 k = 0 ∧ T'.1 657 k = 0 ∧ T'.2.1 653 k = L0 ∧ T'.2.1 654 k = L0 ∧ (∀ a g, ¬ (a = 645 ∧ g = (T.1 621 28).toNat) → ¬ ((a = 655 ∨ a = 656 ∨ a = 657) ∧ g = k) → T'.1 a g = T.1 a g) ∧ (∀ a g, ¬ (653 ≤ a ∧ a ≤ 654 ∧ g = k) → T'.2.1 a g = T.2.1 a g) ∧ T'.2.2 = T.2.2 := by
  obtain ⟨l1, l2, l3, l4, l5, l6, l7⟩ := al_R
  obtain ⟨r0, r1, r2, r3, r4, r5, r6⟩ := h
  have h : RT S w T := ⟨r0, r1, r2, r3, r4, r5, r6⟩
  unfold jm_252
  rw [sp_234 r2 (by omega), sp_bd, hp]
  have h1 : RT S w (ev_pI T 645 (T.1 621 28).toNat (p + 1)) := RT_c h (fun a g ha => if_neg (by omega))
  have q1 : rpos (ev_pI T 645 (T.1 621 28).toNat (p + 1)) = p + 1 := by
    unfold rpos
    rw [show (ev_pI T 645 (T.1 621 28).toNat (p + 1)).1 621 28 = T.1 621 28 from rd_nk (by omega), rd_eq]
  rw [sp_233 h1 (by omega), sp_bd, q1, show p + 1 + 0 = p + 1 from by omega, sp_jn]
  have fin : ∀ v : Int, v = 0 ∨ v = 1 → ∃ T', (ev_if (ev_bl v) (ev_if ((0 : Int) ≤ (k : Int) ∧ (k : Int) < (ev_aln 655 : Int)) (ev_b (ev_pI (ev_pI T 645 (T.1 621 28).toNat (p + 1)) 655 (Int.toNat (k : Int)) v) fun s11 => ev_if ((0 : Int) ≤ (k : Int) ∧ (k : Int) < (ev_aln 655 : Int)) (ev_b (s11.1 655 (Int.toNat (k : Int))) fun x13 => ev_jn (fun (x14 : Int) (s18 : ev_St) => ev_bd (jm_234 Q x14 s18) fun _ s19 => ev_if ((0 : Int) ≤ (k : Int) ∧ (k : Int) < (ev_aln 657 : Int)) (ev_b (ev_pI s19 657 (Int.toNat (k : Int)) 0) fun s20 => ev_if ((0 : Int) ≤ (k : Int) ∧ (k : Int) < (ev_aln 653 : Int)) (ev_b (ev_pL s20 653 (Int.toNat (k : Int)) ((Int64.ofNat ((0 : Fin 2) : Nat)))) fun s21 => ev_if ((0 : Int) ≤ (k : Int) ∧ (k : Int) < (ev_aln 654 : Int)) (ev_b (ev_pL s21 654 (Int.toNat (k : Int)) ((Int64.ofNat ((0 : Fin 2) : Nat)))) fun s22 => ev_if ((0 : Int) ≤ (k : Int) ∧ (k : Int) < (ev_aln 656 : Int)) (ev_b (ev_pI s22 656 (Int.toNat (k : Int)) 0) fun s23 => some ((), s23)))))) fun K41 => if x13 = 0 then (K41 0 s11) else (K41 1 s11))))) = some ((), T') ∧ (rpos T' = if v = 1 then p + 2 else p + 1) ∧ T'.1 655 k = v ∧ T'.1 656 k = 0 ∧ T'.1 657 k = 0 ∧ T'.2.1 653 k = L0 ∧ T'.2.1 654 k = L0 ∧ (∀ a g, ¬ (a = 645 ∧ g = (T.1 621 28).toNat) → ¬ ((a = 655 ∨ a = 656 ∨ a = 657) ∧ g = k) → T'.1 a g = T.1 a g) ∧ (∀ a g, ¬ (653 ≤ a ∧ a ≤ 654 ∧ g = k) → T'.2.1 a g = T.2.1 a g) ∧ T'.2.2 = T.2.2 := fun v hv => by
    have e28 : (ev_pI (ev_pI T 645 (T.1 621 28).toNat (p + 1)) 655 k v).1 621 28 = T.1 621 28 := by rw [rd_nk (by omega), rd_nk (by omega)]
    have q2 : rpos (ev_pI (ev_pI T 645 (T.1 621 28).toNat (p + 1)) 655 k v) = p + 1 := by
      unfold rpos
      rw [e28, rd_nk (by omega), rd_eq]
    rw [sp_if hv, sp_if (by rw [l5]; omega), sp_b, Int.toNat_natCast, sp_if (by rw [l5]; omega), sp_b, rd_eq, sp_jn]
    have e234 : ∀ z : Int, z = 0 ∨ z = 1 → jm_234 Q z (ev_pI (ev_pI T 645 (T.1 621 28).toNat (p + 1)) 655 k v) = some ((), ev_pI (ev_pI (ev_pI T 645 (T.1 621 28).toNat (p + 1)) 655 k v) 645 (T.1 621 28).toNat (p + 1 + z)) := fun z hz => by
      rw [sp_234 (by rw [e28]; exact r2) (by rw [q2]; omega), e28, q2]
    have z01 : ∃ z : Int, (z = 0 ∨ z = 1) ∧ (p + 1 + z = if v = 1 then p + 2 else p + 1) ∧ (if v = 0 then (0 : Int) else 1) = z := by
      rcases hv with h | h
      · subst h
        exact ⟨0, Or.inl rfl, by rw [if_neg (by decide)]; omega, rfl⟩
      · subst h
        exact ⟨1, Or.inr rfl, by rw [if_pos rfl]; omega, rfl⟩
    obtain ⟨z, z1, z2, z3⟩ := z01
    refine ⟨ev_pI (ev_pL (ev_pL (ev_pI (ev_pI (ev_pI (ev_pI T 645 (T.1 621 28).toNat (p + 1)) 655 k v) 645 (T.1 621 28).toNat (p + 1 + z)) 657 k 0) 653 k L0) 654 k L0) 656 k 0, ?_, ?_, ?_, rd_eq, ?_, ?_, ?_, fun a g h1 h2 => ?_, fun a g h1 => ?_, rfl⟩
    · split
      · next h =>
        rw [if_pos h] at z3
        subst z3
        dsimp only
        rw [e234 0 (Or.inl rfl), sp_bd, sp_if (by rw [l7]; omega), sp_b, sp_if (by rw [l3]; omega), sp_b, sp_if (by rw [l4]; omega), sp_b, sp_if (by rw [l6]; omega), sp_b]
      · next h =>
        rw [if_neg h] at z3
        subst z3
        dsimp only
        rw [e234 1 (Or.inr rfl), sp_bd, sp_if (by rw [l7]; omega), sp_b, sp_if (by rw [l3]; omega), sp_b, sp_if (by rw [l4]; omega), sp_b, sp_if (by rw [l6]; omega), sp_b]
    · unfold rpos
      have e : (ev_pI (ev_pL (ev_pL (ev_pI (ev_pI (ev_pI (ev_pI T 645 (T.1 621 28).toNat (p + 1)) 655 k v) 645 (T.1 621 28).toNat (p + 1 + z)) 657 k 0) 653 k L0) 654 k L0) 656 k 0).1 621 28 = T.1 621 28 := by
        rw [rd_nk (by omega), sp_pL1, sp_pL1, rd_nk (by omega), rd_nk (by omega), e28]
      rw [e, rd_nk (by omega), sp_pL1, sp_pL1, rd_nk (by omega), rd_eq, z2]
    · rw [rd_nk (by omega), sp_pL1, sp_pL1, rd_nk (by omega), rd_nk (by omega), rd_eq]
    · rw [rd_nk (by omega), sp_pL1, sp_pL1, rd_eq]
    · exact (rdL_nk (by omega)).trans rd_L
    · exact rd_L
    · rw [sp_pI1, if_neg (by omega), sp_pL1, sp_pL1, sp_pI1, if_neg (by omega), sp_pI1, if_neg (by omega), sp_pI1, if_neg (by omega), sp_pI1, if_neg (by omega)]
    · show (ev_pL (ev_pL (ev_pI (ev_pI (ev_pI (ev_pI T 645 (T.1 621 28).toNat (p + 1)) 655 k v) 645 (T.1 621 28).toNat (p + 1 + z)) 657 k 0) 653 k L0) 654 k L0).2.1 a g = _
      rw [sp_pL2, if_neg (by omega), sp_pL2, if_neg (by omega)]
      rfl
  by_cases e : sp_at S w (p + 1) = 94
  · rw [if_neg (fun z => z e), if_pos e, if_pos e]
    have q := fin 1 (Or.inr rfl)
    rw [if_pos rfl] at q
    exact q
  · rw [if_pos e, if_neg e, if_neg e]
    have q := fin 0 (Or.inl rfl)
    rw [if_neg (by decide)] at q
    exact q
def rjn (j : Int) (t o : Int64) : Int64 := if j = 0 then o else if j = 1 then t &&& o else t &&& (o ^^^ (-1))
/-- the operand is joined -/
theorem sp_248 (hk : k < 128) (hb : T.1 621 25 = 0) (hs : T.1 656 k = 0 ∨ T.1 656 k = 1) : ∃ T', jm_248 Q (k : Int) T = some ((), T') ∧ T'.1 621 25 = (if T.1 656 k = 0 then 1 else 0) ∧ T'.2.1 651 k = rjn (T.1 657 k) (T.2.1 651 k) (T.2.1 653 k) ∧ T'.2.1 652 k = rjn (T.1 657 k) (T.2.1 652 k) (T.2.1 654 k) ∧ T'.2.1 653 k = L0 ∧ T'.2.1 654 k = L0 ∧ T'.1 656 k = 0 ∧ (∀ a g, ¬ (a = 621 ∧ g = 25) → ¬ (a = 656 ∧ g = k) → T'.1 a g = T.1 a g) ∧ (∀ a g, ¬ (651 ≤ a ∧ a ≤ 654 ∧ g = k) → T'.2.1 a g = T.2.1 a g) ∧ T'.2.2 = T.2.2 := by
  obtain ⟨l1, l2, l3, l4, l5, l6, l7⟩ := al_R
  have b1 : (0 : Int) ≤ (k : Int) ∧ (k : Int) < (ev_aln 651 : Int) := by rw [l1]; omega
  have b2 : (0 : Int) ≤ (k : Int) ∧ (k : Int) < (ev_aln 652 : Int) := by rw [l2]; omega
  have b3 : (0 : Int) ≤ (k : Int) ∧ (k : Int) < (ev_aln 653 : Int) := by rw [l3]; omega
  have b4 : (0 : Int) ≤ (k : Int) ∧ (k : Int) < (ev_aln 654 : Int) := by rw [l4]; omega
  have b6 : (0 : Int) ≤ (k : Int) ∧ (k : Int) < (ev_aln 656 : Int) := by rw [l6]; omega
  have b7 : (0 : Int) ≤ (k : Int) ∧ (k : Int) < (ev_aln 657 : Int) := by rw [l7]; omega
  refine ⟨ev_pI (ev_pL (ev_pL (ev_pL (ev_pL (ev_pI T 621 25 (if T.1 656 k = 0 then 1 else 0)) 651 k (rjn (T.1 657 k) (T.2.1 651 k) (T.2.1 653 k))) 652 k (rjn (T.1 657 k) (T.2.1 652 k) (T.2.1 654 k))) 653 k L0) 654 k L0) 656 k 0, ?_, ?_, ?_, ?_, ?_, rd_L, rd_eq, fun a g h1 h2 => ?_, fun a g h1 => ?_, rfl⟩
  · have main : ∀ v : Int, v = 0 ∨ v = 1 → (ev_if (ev_bl v) (ev_b (ev_pI T 621 25 v) fun s7 => ev_if ((0 : Int) ≤ (k : Int) ∧ (k : Int) < (ev_aln 657 : Int)) (ev_b (s7.1 657 (Int.toNat (k : Int))) fun x9 => ev_jn (fun (y12 : Int64) (x11 : Int) (r10 : Nat) (s16 : ev_St) => ev_if ((0 : Int) ≤ x11 ∧ x11 < (ev_aln r10 : Int)) (ev_b (ev_pL s16 r10 (Int.toNat x11) y12) fun s17 => ev_if ((0 : Int) ≤ (k : Int) ∧ (k : Int) < (ev_aln 657 : Int)) (ev_b (s17.1 657 (Int.toNat (k : Int))) fun x18 => ev_jn (fun (y21 : Int64) (x20 : Int) (r19 : Nat) (s25 : ev_St) => ev_if ((0 : Int) ≤ x20 ∧ x20 < (ev_aln r19 : Int)) (ev_b (ev_pL s25 r19 (Int.toNat x20) y21) fun s26 => ev_if ((0 : Int) ≤ (k : Int) ∧ (k : Int) < (ev_aln 653 : Int)) (ev_b (ev_pL s26 653 (Int.toNat (k : Int)) L0) fun s27 => ev_if ((0 : Int) ≤ (k : Int) ∧ (k : Int) < (ev_aln 654 : Int)) (ev_b (ev_pL s27 654 (Int.toNat (k : Int)) L0) fun s28 => ev_if ((0 : Int) ≤ (k : Int) ∧ (k : Int) < (ev_aln 656 : Int)) (ev_b (ev_pI s28 656 (Int.toNat (k : Int)) 0) fun s29 => some ((), s29)))))) fun K158 => if x18 ≠ 0 then (ev_if ((0 : Int) ≤ (k : Int) ∧ (k : Int) < (ev_aln 657 : Int)) (ev_b (s17.1 657 (Int.toNat (k : Int))) fun x31 => if x31 ≠ 1 then (ev_if ((0 : Int) ≤ (k : Int) ∧ (k : Int) < (ev_aln 652 : Int)) (ev_b (s17.2.1 652 (Int.toNat (k : Int))) fun y33 => ev_if ((0 : Int) ≤ (k : Int) ∧ (k : Int) < (ev_aln 654 : Int)) (ev_b (s17.2.1 654 (Int.toNat (k : Int))) fun y34 => ev_b (y34 ^^^ (-1)) fun y35 => ev_b (y33 &&& y35) fun y36 => K158 y36 (k : Int) 652 s17))) else (ev_if ((0 : Int) ≤ (k : Int) ∧ (k : Int) < (ev_aln 652 : Int)) (ev_b (s17.2.1 652 (Int.toNat (k : Int))) fun y37 => ev_if ((0 : Int) ≤ (k : Int) ∧ (k : Int) < (ev_aln 654 : Int)) (ev_b (s17.2.1 654 (Int.toNat (k : Int))) fun y38 => ev_b (y37 &&& y38) fun y39 => K158 y39 (k : Int) 652 s17))))) else (ev_if ((0 : Int) ≤ (k : Int) ∧ (k : Int) < (ev_aln 654 : Int)) (ev_b (s17.2.1 654 (Int.toNat (k : Int))) fun y40 => K158 y40 (k : Int) 652 s17))))) fun K91 => if x9 ≠ 0 then (ev_if ((0 : Int) ≤ (k : Int) ∧ (k : Int) < (ev_aln 657 : Int)) (ev_b (s7.1 657 (Int.toNat (k : Int))) fun x42 => if x42 ≠ 1 then (ev_if ((0 : Int) ≤ (k : Int) ∧ (k : Int) < (ev_aln 651 : Int)) (ev_b (s7.2.1 651 (Int.toNat (k : Int))) fun y44 => ev_if ((0 : Int) ≤ (k : Int) ∧ (k : Int) < (ev_aln 653 : Int)) (ev_b (s7.2.1 653 (Int.toNat (k : Int))) fun y45 => ev_b (y45 ^^^ (-1)) fun y46 => ev_b (y44 &&& y46) fun y47 => K91 y47 (k : Int) 651 s7))) else (ev_if ((0 : Int) ≤ (k : Int) ∧ (k : Int) < (ev_aln 651 : Int)) (ev_b (s7.2.1 651 (Int.toNat (k : Int))) fun y48 => ev_if ((0 : Int) ≤ (k : Int) ∧ (k : Int) < (ev_aln 653 : Int)) (ev_b (s7.2.1 653 (Int.toNat (k : Int))) fun y49 => ev_b (y48 &&& y49) fun y50 => K91 y50 (k : Int) 651 s7))))) else (ev_if ((0 : Int) ≤ (k : Int) ∧ (k : Int) < (ev_aln 653 : Int)) (ev_b (s7.2.1 653 (Int.toNat (k : Int))) fun y51 => K91 y51 (k : Int) 651 s7))))) = some ((), ev_pI (ev_pL (ev_pL (ev_pL (ev_pL (ev_pI T 621 25 v) 651 k (rjn (T.1 657 k) (T.2.1 651 k) (T.2.1 653 k))) 652 k (rjn (T.1 657 k) (T.2.1 652 k) (T.2.1 654 k))) 653 k L0) 654 k L0) 656 k 0) := fun v hv => by
      have e657 : ∀ y : Int64, (ev_pL (ev_pI T 621 25 v) 651 k y).1 657 k = T.1 657 k := fun y => by rw [sp_pL1, rd_nk (by omega)]
      have e657' : (ev_pI T 621 25 v).1 657 k = T.1 657 k := rd_nk (by omega)
      have e652 : ∀ y : Int64, (ev_pL (ev_pI T 621 25 v) 651 k y).2.1 652 k = T.2.1 652 k := fun y => rdL_nk (by omega)
      have e654 : ∀ y : Int64, (ev_pL (ev_pI T 621 25 v) 651 k y).2.1 654 k = T.2.1 654 k := fun y => rdL_nk (by omega)
      have e2 : ∀ a, (ev_pI T 621 25 v).2.1 a k = T.2.1 a k := fun _ => rfl
      rw [sp_if hv]
      simp only [sp_b, sp_jn, sp_if b1, sp_if b2, sp_if b3, sp_if b4, sp_if b6, sp_if b7, Int.toNat_natCast, e657, e657', e652, e654, e2]
      unfold rjn
      by_cases j0 : T.1 657 k = 0
      · simp only [if_pos j0, ne_eq, not_true, if_false, j0, if_true]
      · by_cases j1 : T.1 657 k = 1
        · simp only [ne_eq, not_true, if_false, j1, if_true, show ¬ ((1 : Int) = 0) by decide, not_false_iff]
        · simp only [ne_eq, not_true, if_false, j1, j0, if_true, not_false_iff]
    unfold jm_248
    rw [sp_b, hb, sp_jn, sp_jn, if_neg (fun z => z rfl), sp_if b6, sp_b, Int.toNat_natCast]
    rcases hs with h | h
    · rw [h, if_neg (fun z => z rfl), if_pos rfl]
      exact main 1 (Or.inr rfl)
    · rw [h, if_pos (by decide), if_neg (by decide)]
      exact main 0 (Or.inl rfl)
  · rw [rd_nk (by omega), sp_pL1, sp_pL1, sp_pL1, sp_pL1, rd_eq]
  · exact (rdL_nk (by omega)).trans ((rdL_nk (by omega)).trans ((rdL_nk (by omega)).trans rd_L))
  · exact (rdL_nk (by omega)).trans ((rdL_nk (by omega)).trans rd_L)
  · exact (rdL_nk (by omega)).trans rd_L
  · rw [sp_pI1, if_neg (by omega), sp_pL1, sp_pL1, sp_pL1, sp_pL1, sp_pI1, if_neg (by omega)]
  · show (ev_pL (ev_pL (ev_pL (ev_pL (ev_pI T 621 25 (if T.1 656 k = 0 then 1 else 0)) 651 k (rjn (T.1 657 k) (T.2.1 651 k) (T.2.1 653 k))) 652 k (rjn (T.1 657 k) (T.2.1 652 k) (T.2.1 654 k))) 653 k L0) 654 k L0).2.1 a g = _
    rw [sp_pL2, if_neg (by omega), sp_pL2, if_neg (by omega), sp_pL2, if_neg (by omega), sp_pL2, if_neg (by omega)]
    rfl
end REFC
