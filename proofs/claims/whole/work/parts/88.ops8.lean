/-! marks move: the class's -/
/-- where a mark at v comes to, r: its kind, when of the place p to e is made i signs -/
def sp_mv (p e i r v : Int) : Int := if v < p ∨ (v = p ∧ r = 0) then v else if v < e then (if r = 0 then p else p + i) else v + i - (e - p)
theorem sp_10l {Q : Nat} {b p e i : Int} (hp : 0 ≤ p ∧ p ≤ e ∧ e ≤ 160 ∧ 0 ≤ i ∧ i ≤ 160) : ∀ (m q : Nat) (x : Nat) (S : ev_St), m < q → S.1 254 4 = (x : Int) + m → S.1 254 4 ≤ 12 → (∀ g : Nat, x ≤ g → (g : Int) < S.1 254 4 → 0 ≤ S.1 258 g ∧ S.1 258 g ≤ 160) → ∃ S', jl_10_3 Q b p e i q (x : Int) S = some ((), S') ∧ (∀ g : Nat, x ≤ g → (g : Int) < S.1 254 4 → S'.1 258 g = if S.1 256 g = b then sp_mv p e i (S.1 257 g) (S.1 258 g) else S.1 258 g) ∧ (∀ c g, ¬ (c = 258 ∧ x ≤ g) → S'.1 c g = S.1 c g) ∧ S'.2 = S.2
  | m, 0, x, S, h, _, _, _ => by omega
  | 0, q + 1, x, S, h, h1, h2, h3 => by
    refine ⟨S, ?_, fun g g1 g2 => by omega, fun _ _ _ => rfl, rfl⟩
    show jb_10_3 Q b p e i (jl_10_3 Q b p e i q) x S = _
    unfold jb_10_3
    rw [sp_b, if_pos (by omega)]
  | m + 1, q + 1, x, S, h, h1, h2, h3 => by
    obtain ⟨l1, l2, l3, _⟩ := sp_alnM
    have hv := h3 x (Nat.le_refl _) (by omega)
    have key : ∃ y, jl_10_3 Q b p e i (q + 1) (x : Int) S = jl_10_3 Q b p e i q ((x + 1 : Nat) : Int) y ∧ y.1 258 x = (if S.1 256 x = b then sp_mv p e i (S.1 257 x) (S.1 258 x) else S.1 258 x) ∧ (∀ c g, ¬ (c = 258 ∧ g = x) → y.1 c g = S.1 c g) ∧ y.2 = S.2 := by
      show ∃ y, jb_10_3 Q b p e i (jl_10_3 Q b p e i q) (x : Int) S = _ ∧ _
      unfold jb_10_3
      simp only [sp_jn]
      rw [sp_b, if_neg (by omega), if_neg (by omega), sp_if (by rw [l3]; omega), sp_b, show ((x : Nat) : Int).toNat = x from rfl]
      have cx : ((x : Int) + 1) = ((x + 1 : Nat) : Int) := by omega
      have b1 : (0 : Int) ≤ (x : Int) ∧ (x : Int) < (ev_aln 256 : Int) := by rw [l1]; omega
      have b2 : (0 : Int) ≤ (x : Int) ∧ (x : Int) < (ev_aln 257 : Int) := by rw [l2]; omega
      have b3 : (0 : Int) ≤ (x : Int) ∧ (x : Int) < (ev_aln 258 : Int) := by rw [l3]; omega
      have c1 : -2147483648 ≤ ((x + 1 : Nat) : Int) ∧ ((x + 1 : Nat) : Int) ≤ 2147483647 := by omega
      have c2 : -2147483648 ≤ p + i ∧ p + i ≤ 2147483647 := by omega
      have c3 : -2147483648 ≤ S.1 258 x + i ∧ S.1 258 x + i ≤ 2147483647 := by omega
      have c4 : -2147483648 ≤ e - p ∧ e - p ≤ 2147483647 := by omega
      have c5 : -2147483648 ≤ S.1 258 x + i - (e - p) ∧ S.1 258 x + i - (e - p) ≤ 2147483647 := by omega
      simp only [sp_if b1, sp_if b2, sp_if b3, sp_b, Int.toNat_natCast, cx, sp_ck c1, sp_ck c2, sp_ck c3, sp_ck c4, sp_ck c5]
      by_cases hB : S.1 256 x = b
      · by_cases hs : S.1 258 x < p ∨ (S.1 258 x = p ∧ S.1 257 x = 0)
        · refine ⟨S, ?_, by rw [if_pos hB]; unfold sp_mv; rw [if_pos hs], fun _ _ _ => rfl, rfl⟩
          (repeat' split) <;> first | rfl | (exfalso; omega) | exact absurd trivial ‹¬True›
        · refine ⟨ev_pI S 258 x (sp_mv p e i (S.1 257 x) (S.1 258 x)), ?_, by rw [sp_pI1, if_pos ⟨rfl, rfl⟩, if_pos hB], fun c g w => by rw [sp_pI1, if_neg w], rfl⟩
          unfold sp_mv
          rw [if_neg hs]
          (repeat' split) <;> first | rfl | (exfalso; omega) | exact absurd trivial ‹¬True›
      · refine ⟨S, ?_, by rw [if_neg hB], fun _ _ _ => rfl, rfl⟩
        (repeat' split) <;> first | rfl | (exfalso; omega) | exact absurd trivial ‹¬True›
    obtain ⟨y, k1, k2, k3, k4⟩ := key
    obtain ⟨S', r1, r2, r3, r4⟩ := sp_10l (Q := Q) (b := b) hp m q (x + 1) y (by omega) (by rw [k3 254 4 (by simp)]; omega) (by rw [k3 254 4 (by simp)]; exact h2) (fun g hg0 hg => by
      rw [k3 254 4 (by simp)] at hg
      rw [k3 258 g (by omega)]
      exact h3 g (by omega) hg)
    refine ⟨S', k1.trans r1, fun g g1 g2 => ?_, fun c g w => ?_, r4.trans k4⟩
    · by_cases hgx : g = x
      · rw [r3 258 g (by omega), hgx, k2]
      · have q := r2 g (by omega) (by rw [k3 254 4 (by simp)]; exact g2)
        rw [k3 256 g (by simp), k3 257 g (by simp), k3 258 g (by omega)] at q
        exact q
    · rw [r3 c g (by omega), k3 c g (by omega)]
/-- the reference's -/
theorem sp_341m {Q : Nat} {b p e i : Int} (hp : 0 ≤ p ∧ p ≤ e ∧ e ≤ 160 ∧ 0 ≤ i ∧ i ≤ 160) : ∀ (m q : Nat) (x : Nat) (S : ev_St), m < q → S.1 621 121 = (x : Int) + m → S.1 621 121 ≤ 12 → (∀ g : Nat, x ≤ g → (g : Int) < S.1 621 121 → 0 ≤ S.1 710 g ∧ S.1 710 g ≤ 160) → ∃ S', jl_341_171 Q b p e i (i - (e - p)) q (x : Int) S = some ((), S') ∧ (∀ g : Nat, x ≤ g → (g : Int) < S.1 621 121 → S'.1 710 g = if S.1 709 g = b then sp_mv p e i (S.1 711 g) (S.1 710 g) else S.1 710 g) ∧ (∀ c g, ¬ (c = 710 ∧ x ≤ g) → S'.1 c g = S.1 c g) ∧ S'.2 = S.2
  | m, 0, x, S, h, _, _, _ => by omega
  | 0, q + 1, x, S, h, h1, h2, h3 => by
    refine ⟨S, ?_, fun g g1 g2 => by omega, fun _ _ _ => rfl, rfl⟩
    show jb_341_171 Q b p e i (i - (e - p)) (jl_341_171 Q b p e i (i - (e - p)) q) x S = _
    unfold jb_341_171
    rw [sp_b, if_pos (by omega)]
  | m + 1, q + 1, x, S, h, h1, h2, h3 => by
    obtain ⟨_, _, _, l1, l3, l2⟩ := sp_alnM
    have hv := h3 x (Nat.le_refl _) (by omega)
    have key : ∃ y, jl_341_171 Q b p e i (i - (e - p)) (q + 1) (x : Int) S = jl_341_171 Q b p e i (i - (e - p)) q ((x + 1 : Nat) : Int) y ∧ y.1 710 x = (if S.1 709 x = b then sp_mv p e i (S.1 711 x) (S.1 710 x) else S.1 710 x) ∧ (∀ c g, ¬ (c = 710 ∧ g = x) → y.1 c g = S.1 c g) ∧ y.2 = S.2 := by
      show ∃ y, jb_341_171 Q b p e i (i - (e - p)) (jl_341_171 Q b p e i (i - (e - p)) q) (x : Int) S = _ ∧ _
      unfold jb_341_171
      simp only [sp_jn]
      rw [sp_b, if_neg (by omega), sp_if (by rw [l3]; omega), sp_b, show ((x : Nat) : Int).toNat = x from rfl]
      have cx : ((x : Int) + 1) = ((x + 1 : Nat) : Int) := by omega
      have b1 : (0 : Int) ≤ (x : Int) ∧ (x : Int) < (ev_aln 709 : Int) := by rw [l1]; omega
      have b2 : (0 : Int) ≤ (x : Int) ∧ (x : Int) < (ev_aln 711 : Int) := by rw [l2]; omega
      have b3 : (0 : Int) ≤ (x : Int) ∧ (x : Int) < (ev_aln 710 : Int) := by rw [l3]; omega
      have c1 : -2147483648 ≤ ((x + 1 : Nat) : Int) ∧ ((x + 1 : Nat) : Int) ≤ 2147483647 := by omega
      have c2 : -2147483648 ≤ p + i ∧ p + i ≤ 2147483647 := by omega
      have c3 : -2147483648 ≤ S.1 710 x + (i - (e - p)) ∧ S.1 710 x + (i - (e - p)) ≤ 2147483647 := by omega
      have c4 : -2147483648 ≤ e - p ∧ e - p ≤ 2147483647 := by omega
      have c5 : -2147483648 ≤ S.1 710 x + i - (e - p) ∧ S.1 710 x + i - (e - p) ≤ 2147483647 := by omega
      simp only [sp_if b1, sp_if b2, sp_if b3, sp_b, Int.toNat_natCast, cx, sp_ck c1, sp_ck c2, sp_ck c3, sp_ck c4, sp_ck c5]
      by_cases hB : S.1 709 x = b
      · by_cases hs : S.1 710 x < p ∨ (S.1 710 x = p ∧ S.1 711 x = 0)
        · refine ⟨S, ?_, by rw [if_pos hB]; unfold sp_mv; rw [if_pos hs], fun _ _ _ => rfl, rfl⟩
          (repeat' split) <;> first | rfl | (exfalso; omega) | exact absurd trivial ‹¬True›
        · refine ⟨ev_pI S 710 x (sp_mv p e i (S.1 711 x) (S.1 710 x)), ?_, by rw [sp_pI1, if_pos ⟨rfl, rfl⟩, if_pos hB], fun c g w => by rw [sp_pI1, if_neg w], rfl⟩
          have em : sp_mv p e i (S.1 711 x) (S.1 710 x) = if S.1 710 x < e then (if S.1 711 x = 0 then p else p + i) else S.1 710 x + (i - (e - p)) := by
            unfold sp_mv
            rw [if_neg hs]
            split
            · rfl
            · omega
          rw [em]
          (repeat' split) <;> first | rfl | (exfalso; omega) | exact absurd trivial ‹¬True›
      · refine ⟨S, ?_, by rw [if_neg hB], fun _ _ _ => rfl, rfl⟩
        (repeat' split) <;> first | rfl | (exfalso; omega) | exact absurd trivial ‹¬True›
    obtain ⟨y, k1, k2, k3, k4⟩ := key
    obtain ⟨S', r1, r2, r3, r4⟩ := sp_341m (Q := Q) (b := b) hp m q (x + 1) y (by omega) (by rw [k3 621 121 (by simp)]; omega) (by rw [k3 621 121 (by simp)]; exact h2) (fun g hg0 hg => by
      rw [k3 621 121 (by simp)] at hg
      rw [k3 710 g (by omega)]
      exact h3 g (by omega) hg)
    refine ⟨S', k1.trans r1, fun g g1 g2 => ?_, fun c g w => ?_, r4.trans k4⟩
    · by_cases hgx : g = x
      · rw [r3 710 g (by omega), hgx, k2]
      · have q := r2 g (by omega) (by rw [k3 621 121 (by simp)]; exact g2)
        rw [k3 709 g (by simp), k3 711 g (by simp), k3 710 g (by omega)] at q
        exact q
    · rw [r3 c g (by omega), k3 c g (by omega)]
