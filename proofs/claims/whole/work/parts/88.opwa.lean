/-! PARTS: what is wanted for the call -/
section OPWA
variable {Q k l : Nat} {rk : Nat → Nat} {Z : Nat → Prop} {S S2 T T' U : ev_St}
/-- what the reference's reading may change -/
def Rk (c f : Nat) : Prop := (c = 621 ∧ 25 ≤ f ∧ f ≤ 42) ∨ (625 ≤ c ∧ c ≤ 638) ∨ (644 ≤ c ∧ c ≤ 657)
theorem fr_265 {a v : Int} (h : jm_265 Q a T = some (v, T')) : (∀ c f, ¬ Rk c f → T'.1 c f = T.1 c f) ∧ (∀ c f, ¬ Rk c f → T'.2.1 c f = T.2.1 c f) ∧ (∀ c f, T'.2.2.1 c f = T.2.2.1 c f) ∧ T'.2.2.2 = T.2.2.2 := by
  have q := (ef_265 (Q := Q) (S := T)) _ _ h
  have hl : wl_265.all (fun x => decide (x.1 ≠ 2 ∧ ((x.2.1 = 621 ∧ 25 ≤ x.2.2 ∧ x.2.2 ≤ 42) ∨ (625 ≤ x.2.1 ∧ x.2.1 ≤ 638) ∨ (644 ≤ x.2.1 ∧ x.2.1 ≤ 657)))) = true := by decide +kernel
  have hx := fun x m => of_decide_eq_true (List.all_eq_true.mp hl x m)
  have w : ∀ p c f, (¬ Rk c f ∨ p = 2) → wm wl_265 p c f = false := fun p c f z => wm_f (R := fun _ _ _ => True) fun x m e1 e2 e3 => by
    have y := hx x m
    unfold Rk at z
    omega
  exact ⟨fun c f z => q.1 c f (w 0 c f (Or.inl z)), fun c f z => q.2.1 c f (w 1 c f (Or.inl z)), fun c f => q.2.2.1 c f (w 2 c f (Or.inr rfl)), q.2.2.2⟩
theorem sp_prt : ∀ b : Nat, b < 26 → ev_isOb (169 + 2 * b) 10 = true := fun b hb => by
  have h : ∀ b : Fin 26, ev_isOb (169 + 2 * b.val) 10 = true := by decide +kernel
  exact h ⟨b, hb⟩
theorem sp_271l {n x7 : Int} (hl : l < 26) (hn : 0 ≤ n ∧ n ≤ 120) : ∀ (m q : Nat) (x : Int) (T : ev_St), m < q → x = n - m → 0 ≤ x → T.1 621 1 = n → ∃ T1, jl_271_34 Q (97 + (l : Int)) x7 q x T = some (x7, ev_pI (ev_pI T1 623 l n) 621 1 0) ∧ (∀ g : Nat, T1.1 624 g = if 120 * (l : Int) + x ≤ (g : Int) ∧ (g : Int) < 120 * l + n then T.1 622 ((g : Int) - 120 * l).toNat else T.1 624 g) ∧ (∀ c g, c ≠ 624 → T1.1 c g = T.1 c g) ∧ T1.2 = T.2
  | m, 0, x, T, h, _, _, _ => by omega
  | 0, q + 1, x, T, _, hx, h0, h1 => by
    have l1 : ev_aln 623 = 26 := by decide +kernel
    refine ⟨T, ?_, fun g => by rw [if_neg (by omega)], fun _ _ _ => rfl, rfl⟩
    show jb_271_34 Q _ _ (jl_271_34 Q _ _ q) x T = _
    unfold jb_271_34
    rw [sp_b, h1, if_pos (by omega), sp_ck (by omega), sp_b, sp_if (by rw [l1]; omega), sp_b, sp_b, show ((97 : Int) + (l : Int) - 97).toNat = l from by omega]
  | m + 1, q + 1, x, T, hq, hx, h0, h1 => by
    have l1 : ev_aln 624 = 3120 := by decide +kernel
    have l622 := sp_aln622
    have f1 : ∀ c g, c ≠ 624 → (ev_pI T 624 (120 * (l : Int) + x).toNat (T.1 622 x.toNat)).1 c g = T.1 c g := fun c g hc => rd_nk hc
    obtain ⟨T1, r1, r2, r3, r4⟩ := sp_271l (x7 := x7) hl hn m q (x + 1) (ev_pI T 624 (120 * (l : Int) + x).toNat (T.1 622 x.toNat)) (by omega) (by omega) (by omega) (by rw [f1 621 1 (by omega), h1])
    refine ⟨T1, ?_, fun g => ?_, fun c g hc => by rw [r3 c g hc, f1 c g hc], r4⟩
    · show jb_271_34 Q _ _ (jl_271_34 Q _ _ q) x T = _
      unfold jb_271_34
      rw [sp_b, h1, if_neg (by omega), sp_ck (by omega), show (97 : Int) + (l : Int) - 97 = l from by omega, sp_ck (by omega), sp_ck (by omega), sp_if (by rw [l622]; omega), sp_b, sp_if (by rw [l1]; omega), sp_b, sp_ck (by omega)]
      exact r1
    · rw [r2, f1 622 _ (by omega), sp_pI1]
      by_cases e : g = (120 * (l : Int) + x).toNat
      · rw [if_neg (by omega), if_pos ⟨rfl, e⟩, if_pos (by omega), show ((g : Int) - 120 * l).toNat = x.toNat from by omega]
      · by_cases e2 : 120 * (l : Int) + x ≤ (g : Int) ∧ (g : Int) < 120 * l + n
        · rw [if_pos (by omega), if_pos e2]
        · rw [if_neg (by omega), if_neg (fun z => e z.2), if_neg e2]
theorem bnd_ex (f : Nat → Nat) : ∀ n : Nat, ∃ K, ∀ l, l < n → f l < K
  | 0 => ⟨0, fun l h => absurd h (Nat.not_lt_zero l)⟩
  | n + 1 => by
    obtain ⟨K, hK⟩ := bnd_ex f n
    refine ⟨K + f n + 1, fun l h => ?_⟩
    by_cases e : l = n
    · rw [e]
      omega
    · have := hK l (by omega)
      omega
/-- the parts' texts, class and reference; ranks of the letters -/
def sp_PA (S : ev_St) : Prop := PRx S S ∧ ∃ rk, RKP rk S
/-- a new part has a rank -/
theorem RKP_new {l0 : Nat} {a0 : Int} (hr : RKP rk S) (hz : ZZ Z a0 S) (hl : l0 < 26) (ha : a0 = (l0 : Int)) (hn : S2.1 5 l0 = 1 ∧ sp_at S2 (169 + 2 * l0) = sp_at S 1 ∧ S2.1 (169 + 2 * l0) 1 = S.1 1 1) (ho : ∀ l, l < 26 → l ≠ l0 → S2.1 5 l = S.1 5 l ∧ sp_at S2 (169 + 2 * l) = sp_at S (169 + 2 * l) ∧ S2.1 (169 + 2 * l) 1 = S.1 (169 + 2 * l) 1) : ∃ rk, RKP rk S2 := by
  obtain ⟨K, hK⟩ := bnd_ex rk 26
  have zl : ¬ Z l0 := fun z => (hz.1 l0 z).2.2.1 ha.symm
  refine ⟨fun l => @ite Nat (Z l) (Classical.propDecidable _) (rk l) (rk l + K), fun l h h5 m hm l' hl' hi => ?_⟩
  show @ite Nat (Z l') (Classical.propDecidable _) (rk l') (rk l' + K) < @ite Nat (Z l) (Classical.propDecidable _) (rk l) (rk l + K)
  by_cases e : l = l0
  · subst e
    rw [hn.2.1] at hi hm
    rw [hn.2.2] at hm
    have z := hz.2 m hm l' hl' hi
    have := hK l' hl'
    rw [if_pos z, if_neg zl]
    omega
  · obtain ⟨o1, o2, o3⟩ := ho l h e
    rw [o2] at hi hm
    rw [o3] at hm
    rw [o1] at h5
    have r := hr l h h5 m hm l' hl' hi
    by_cases z : Z l
    · have z' := (hz.1 l z).2.2.2 m hm l' hl' hi
      rw [if_pos z', if_pos z]
      exact r
    · rw [if_neg z]
      by_cases z' : Z l'
      · rw [if_pos z']
        omega
      · rw [if_neg z']
        omega
end OPWA
