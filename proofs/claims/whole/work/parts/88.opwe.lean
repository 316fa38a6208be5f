/-! FACTS: the reference's four numbers of each node -/
section FACTR2
variable {Q N o p m : Nat} {X : Nat → Int} {T U U1 : ev_St}
theorem chl_cnt {α : Type} {f : α → Nat → α} (h : α → Int) (hf : ∀ a t, h (f a t) ≤ h a + 1) : ∀ (n : Nat) (c : Int) (a : α), h (chl X f n c a) ≤ h a + (n : Int)
  | 0, c, a => by
    show h a ≤ _
    omega
  | n + 1, c, a => by
    unfold chl
    split
    · omega
    · have := chl_cnt h hf n (X c.toNat) (f a c.toNat)
      have := hf a c.toNat
      omega
/-- tables whose links go on -/
def TB (N o : Nat) (U : ev_St) : Prop := lnX N (fun t => U.1 627 (o + t)) ∧ (∀ m, m < N → cok (m + 1) N (U.1 626 (o + m))) ∧ ∀ m, m < N → (U.1 630 (o + m) = -1 ∨ ((0 ≤ U.1 631 (o + m) ∧ U.1 631 (o + m) ≤ 20) ∧ (-1 ≤ U.1 632 (o + m) ∧ U.1 632 (o + m) ≤ 20))) ∧ (8 ≤ U.1 625 (o + m) ∧ U.1 625 (o + m) ≤ 13 → U.1 626 (o + m) ≠ -1)
/-- what is gathered of a node's children -/
def fcG (o : Nat) (U : ev_St) (m : Nat) : Int × Int × Int × Int := chl (fun t => U.1 627 (o + t)) (fcR o U) 320 (U.1 626 (o + m)) (-1, 0, 0, 0)
def FQ (o : Nat) (U : ev_St) (m : Nat) : Prop := U.1 640 (o + m) = f640 (U.1 625 (o + m)) (fcG o U m).1 (fcG o U m).2.1 (fcG o U m).2.2.2 ∧ U.1 642 (o + m) = mlC (fits (U.1 625 (o + m)) (fcG o U m).2.2.1 (fcG o U m).2.2.2) ∧ U.1 641 (o + m) = f641 (U.1 630 (o + m)) (U.1 631 (o + m)) (U.1 640 (o + m)) ∧ U.1 643 (o + m) = f643 (U.1 630 (o + m)) (U.1 631 (o + m)) (U.1 632 (o + m)) (fits (U.1 625 (o + m)) (fcG o U m).2.2.1 (fcG o U m).2.2.2) ∧ fcV o U m
theorem TB_c (h : TB N o U) (h1 : ∀ c m, 625 ≤ c → c ≤ 632 → m < N → U1.1 c (o + m) = U.1 c (o + m)) : TB N o U1 := by
  obtain ⟨a, b, c⟩ := h
  refine ⟨fun t ht => ?_, fun m hm => ?_, fun m hm => ?_⟩
  · show U1.1 627 (o + t) = -1 ∨ ∃ u : Nat, U1.1 627 (o + t) = (u : Int) ∧ t < u ∧ u < N
    rw [h1 627 t (by omega) (by omega) ht]
    exact a t ht
  · rw [h1 626 m (by omega) (by omega) hm]
    exact b m hm
  · rw [h1 625 m (by omega) (by omega) hm, h1 626 m (by omega) (by omega) hm, h1 630 m (by omega) (by omega) hm, h1 631 m (by omega) (by omega) hm, h1 632 m (by omega) (by omega) hm]
    exact c m hm
theorem fcG_c (hB : TB N o U) (hm : m < N) (h1 : ∀ c m, 625 ≤ c → c ≤ 632 → m < N → U1.1 c (o + m) = U.1 c (o + m)) (h2 : ∀ c t, 640 ≤ c → c ≤ 643 → m < t → t < N → U1.1 c (o + t) = U.1 c (o + t)) : fcG o U1 m = fcG o U m := by
  unfold fcG
  rw [h1 626 m (by omega) (by omega) hm]
  have e1 : ∀ (n b : Nat) (c : Int) (a : Int × Int × Int × Int), cok b N c → chl (fun t => U1.1 627 (o + t)) (fcR o U1) n c a = chl (fun t => U.1 627 (o + t)) (fcR o U1) n c a := fun n => by
    induction n with
    | zero => intro b c a _; rfl
    | succ n ih =>
      intro b c a hc
      unfold chl
      rcases hc with z | ⟨u, z, z1, z2⟩
      · rw [if_pos z, if_pos z]
      · rw [if_neg (by omega), if_neg (by omega), z, Int.toNat_natCast]
        show chl _ _ n (U1.1 627 (o + u)) _ = chl _ _ n (U.1 627 (o + u)) _
        rw [h1 627 u (by omega) (by omega) z2]
        exact ih (b + 1) _ _ (cok_n (X := fun t => U.1 627 (o + t)) hB.1 z2 z1)
  rw [e1 320 (m + 1) _ _ (hB.2.1 m hm)]
  refine chl_eq hB.1 (b0 := m + 1) (fun a t x y => ?_) 320 (m + 1) _ _ (Nat.le_refl _) (hB.2.1 m hm)
  unfold fcR
  rw [h2 640 t (by omega) (by omega) (by omega) y, h2 641 t (by omega) (by omega) (by omega) y, h2 643 t (by omega) (by omega) (by omega) y]
theorem FQ_c (h : FQ o U m) (hB : TB N o U) (hm : m < N) (h1 : ∀ c m, 625 ≤ c → c ≤ 632 → m < N → U1.1 c (o + m) = U.1 c (o + m)) (h2 : ∀ c t, 640 ≤ c → c ≤ 643 → m ≤ t → t < N → U1.1 c (o + t) = U.1 c (o + t)) : FQ o U1 m := by
  unfold FQ fcV at h ⊢
  rw [fcG_c hB hm h1 (fun c t a b x y => h2 c t a b (by omega) y), h1 625 m (by omega) (by omega) hm, h1 630 m (by omega) (by omega) hm, h1 631 m (by omega) (by omega) hm, h1 632 m (by omega) (by omega) hm, h2 640 m (by omega) (by omega) (Nat.le_refl _) hm, h2 641 m (by omega) (by omega) (Nat.le_refl _) hm, h2 642 m (by omega) (by omega) (Nat.le_refl _) hm, h2 643 m (by omega) (by omega) (Nat.le_refl _) hm]
  exact h
theorem fcG_b (hB : TB N o U) (hm : m < N) (hV : ∀ t, m < t → t < N → fcV o U t) : (0 ≤ (fcG o U m).2.1 ∧ (fcG o U m).2.1 ≤ 320000000) ∧ (0 ≤ (fcG o U m).2.2.1 ∧ (fcG o U m).2.2.1 ≤ 320000000) ∧ (0 ≤ (fcG o U m).2.2.2 ∧ (fcG o U m).2.2.2 ≤ 320) ∧ (U.1 626 (o + m) ≠ -1 → fcv (fcG o U m).1) := by
  have c1 : (fcG o U m).2.2.2 ≤ 0 + ((320 : Nat) : Int) := chl_cnt (fun a : Int × Int × Int × Int => a.2.2.2) (fun a t => by show a.2.2.2 + 1 ≤ _; omega) 320 _ _
  have p1 := chl_inv hB.1 (b0 := m + 1) (fun a : Int × Int × Int × Int => (0 ≤ a.2.1 ∧ a.2.1 ≤ 1000000 * a.2.2.2) ∧ (0 ≤ a.2.2.1 ∧ a.2.2.1 ≤ 1000000 * a.2.2.2) ∧ 0 ≤ a.2.2.2) (f := fcR o U) (fun a t x y h => by
    obtain ⟨v1, v2, v3, v4⟩ := hV t (by omega) y
    unfold fcv at v2 v4
    show (0 ≤ a.2.1 + U.1 641 (o + t) ∧ a.2.1 + U.1 641 (o + t) ≤ 1000000 * (a.2.2.2 + 1)) ∧ (0 ≤ a.2.2.1 + U.1 643 (o + t) ∧ a.2.2.1 + U.1 643 (o + t) ≤ 1000000 * (a.2.2.2 + 1)) ∧ 0 ≤ a.2.2.2 + 1
    omega) 320 (m + 1) (U.1 626 (o + m)) (-1, 0, 0, 0) (Nat.le_refl _) (hB.2.1 m hm) (by dsimp only; omega)
  have p1' : (0 ≤ (fcG o U m).2.1 ∧ (fcG o U m).2.1 ≤ 1000000 * (fcG o U m).2.2.2) ∧ (0 ≤ (fcG o U m).2.2.1 ∧ (fcG o U m).2.2.1 ≤ 1000000 * (fcG o U m).2.2.2) ∧ 0 ≤ (fcG o U m).2.2.2 := p1
  refine ⟨by omega, by omega, by omega, fun hc => ?_⟩
  rcases hB.2.1 m hm with z | ⟨u, z, z1, z2⟩
  · exact absurd z hc
  · have e : fcG o U m = chl (fun t => U.1 627 (o + t)) (fcR o U) 319 (U.1 627 (o + u)) (fcR o U (-1, 0, 0, 0) u) := by
      unfold fcG
      rw [show (320 : Nat) = 319 + 1 from rfl, chl, if_neg hc, z, Int.toNat_natCast]
    have q := chl_inv hB.1 (b0 := m + 1) (fun a : Int × Int × Int × Int => fcv a.1) (f := fcR o U) (fun a t x y h => by
      show fcv (if a.1 = -1 ∨ U.1 640 (o + t) < a.1 then U.1 640 (o + t) else a.1)
      split
      · exact (hV t (by omega) y).1
      · exact h) 319 (u + 1) (U.1 627 (o + u)) (fcR o U (-1, 0, 0, 0) u) (by omega) (cok_n (X := fun t => U.1 627 (o + t)) hB.1 z2 (Nat.le_refl _)) (by
      show fcv (if (-1 : Int) = -1 ∨ U.1 640 (o + u) < -1 then U.1 640 (o + u) else -1)
      rw [if_pos (Or.inl rfl)]
      exact (hV u (by omega) z2).1)
    rw [e]
    exact q
theorem lay4_1 {k c g : Nat} {K few sl sb rows rep lo hi : Int} (h : ¬ (640 ≤ c ∧ c ≤ 643 ∧ g = k)) : (lay4 U k K few sl sb rows rep lo hi).1 c g = U.1 c g := by
  unfold lay4
  rw [sp_pI1, if_neg (by omega), sp_pI1, if_neg (by omega), sp_pI1, if_neg (by omega), sp_pI1, if_neg (by omega)]
theorem mlC_b {x : Int} (h : 0 ≤ x) : fcv (mlC x) := by
  unfold fcv
  have := mlC_i x
  omega
theorem run268_15 (ho : o ≤ 3520) (hN : N ≤ 320) (hQ : 400 ≤ Q) : ∀ (i q : Nat) (U : ev_St), i < q → i ≤ N → TB N o U → (∀ m, i ≤ m → m < N → FQ o U m) → ∃ U', jl_268_15 Q q (o : Int) ((i : Int) - 1) U = some ((), U') ∧ (∀ m, m < N → FQ o U' m) ∧ (∀ c g, ¬ (640 ≤ c ∧ c ≤ 643 ∧ o ≤ g ∧ g < o + i) → U'.1 c g = U.1 c g) ∧ U'.2 = U.2
  | i, 0, U, h, _, _, _ => by omega
  | 0, q + 1, U, _, _, hB, hF => by
    refine ⟨U, ?_, fun m hm => hF m (by omega) hm, fun _ _ _ => rfl, rfl⟩
    show jb_268_15 Q _ _ _ U = _
    unfold jb_268_15
    rw [if_pos (by omega)]
  | i + 1, q + 1, U, hq, hi, hB, hF => by
    obtain ⟨l25, l26, _⟩ := al_K
    obtain ⟨V, hVd⟩ : ∃ V, V = lay4 U (o + i) (U.1 625 (o + i)) (fcG o U i).1 (fcG o U i).2.1 (fcG o U i).2.2.1 (fcG o U i).2.2.2 (U.1 630 (o + i)) (U.1 631 (o + i)) (U.1 632 (o + i)) := ⟨_, rfl⟩
    have hV : ∀ t, i < t → t < N → fcV o U t := fun t a b => (hF t a b).2.2.2.2
    obtain ⟨b1, b2, b3, b4⟩ := fcG_b hB (by omega : i < N) hV
    have v1 : ∀ c g, ¬ (640 ≤ c ∧ c ≤ 643 ∧ g = o + i) → V.1 c g = U.1 c g := fun c g h => by
      rw [hVd]
      exact lay4_1 h
    have hv : fcv (f640 (U.1 625 (o + i)) (fcG o U i).1 (fcG o U i).2.1 (fcG o U i).2.2.2) := by
      unfold f640
      split
      · exact mlC_b (by omega)
      · split
        · exact ⟨by decide, by decide⟩
        · split
          · exact b4 ((hB.2.2 i (by omega)).2 (by omega))
          · exact ⟨by decide, by decide⟩
    have hits : 0 ≤ fits (U.1 625 (o + i)) (fcG o U i).2.2.1 (fcG o U i).2.2.2 := by
      unfold fits
      (repeat' split) <;> omega
    have hB1 : TB N o V := TB_c hB fun c m a b _ => v1 c _ (by omega)
    have hF1 : ∀ m, i ≤ m → m < N → FQ o V m := fun m a b => by
      by_cases e : m = i
      · subst e
        have g := fcG_c (U1 := V) hB (by omega : m < N) (fun c t x y _ => v1 c _ (by omega)) (fun c t x y z w => v1 c _ (by omega))
        have e0 : V.1 640 (o + m) = f640 (U.1 625 (o + m)) (fcG o U m).1 (fcG o U m).2.1 (fcG o U m).2.2.2 := by
          rw [hVd]
          unfold lay4
          rw [rd_nk (by omega), rd_nk (by omega), rd_nk (by omega), rd_eq]
        have e1 : V.1 641 (o + m) = f641 (U.1 630 (o + m)) (U.1 631 (o + m)) (f640 (U.1 625 (o + m)) (fcG o U m).1 (fcG o U m).2.1 (fcG o U m).2.2.2) := by
          rw [hVd]
          unfold lay4
          rw [rd_nk (by omega), rd_eq]
        have e2 : V.1 642 (o + m) = mlC (fits (U.1 625 (o + m)) (fcG o U m).2.2.1 (fcG o U m).2.2.2) := by
          rw [hVd]
          unfold lay4
          rw [rd_nk (by omega), rd_nk (by omega), rd_eq]
        have e3 : V.1 643 (o + m) = f643 (U.1 630 (o + m)) (U.1 631 (o + m)) (U.1 632 (o + m)) (fits (U.1 625 (o + m)) (fcG o U m).2.2.1 (fcG o U m).2.2.2) := by
          rw [hVd]
          unfold lay4
          rw [rd_eq]
        have rb := (hB.2.2 m (by omega)).1
        unfold FQ fcV
        rw [g, v1 625 _ (by omega), v1 630 _ (by omega), v1 631 _ (by omega), v1 632 _ (by omega), e0, e1, e2, e3]
        refine ⟨rfl, rfl, rfl, rfl, hv, ?_, mlC_b hits, ?_⟩
        · unfold f641
          split
          · exact hv
          · exact mlC_b (Int.mul_nonneg hv.1 (by omega))
        · unfold f643
          split
          · exact mlC_b hits
          · split
            · have := Int.mul_nonneg hits (show 0 ≤ U.1 631 (o + m) + 1 by omega)
              exact mlC_b (by omega)
            · exact mlC_b (Int.mul_nonneg (by omega) (by omega))
      · exact FQ_c (hF m (by omega) b) hB b (fun c t x y _ => v1 c _ (by omega)) (fun c t x y z w => v1 c _ (by omega))
    obtain ⟨U', r1, r2, r3, r4⟩ := run268_15 ho hN hQ i q V (by omega) (by omega) hB1 hF1
    refine ⟨U', ?_, r2, fun c g h => by rw [r3 c g (by omega), v1 c g (by omega)], by rw [r4, hVd]; rfl⟩
    rw [← r1]
    show jb_268_15 Q _ _ _ U = _
    unfold jb_268_15
    have ei : ((i + 1 : Nat) : Int) - 1 = (i : Int) := by omega
    have eo : ((o : Int) + (i : Int)).toNat = o + i := by omega
    rw [ei, if_neg (by omega), sp_ck (by omega), sp_if (by rw [l26]; omega), sp_b, eo, i6_0]
    obtain ⟨q', r⟩ := run268_45 (Q := Q) (x5 := (i : Int)) (K15 := jl_268_15 Q q) (k := (o : Int) + (i : Int)) ho hN hB.1 (fun t _ => rfl) 320 Q (i + 1) 0 (-1) 0 0 0 (U.1 626 (o + i)) (by omega) (by omega) (by omega) (hB.2.1 i (by omega)) (fun t a b => hV t (by omega) b) (by omega) (by omega) (by omega)
    rw [r]
    have eg : chl (fun t => U.1 627 (o + t)) (fcR o U) 320 (U.1 626 (o + i)) (-1, 0, 0, 0) = fcG o U i := rfl
    rw [eg, show (o : Int) + (i : Int) = ((o + i : Nat) : Int) from by omega]
    rw [run268_f (K := U.1 625 (o + i)) (rep := U.1 630 (o + i)) (lo := U.1 631 (o + i)) (hi := U.1 632 (o + i)) (by omega) rfl rfl rfl rfl (hB.2.2 i (by omega)).1 (by omega) (by omega) (by omega) hv (by omega), ← hVd]
/-- the tables that a reading leaves -/
theorem TB_of {k M : Nat} {φ ψ own up : Nat → Nat} {S : ev_St} (h : FINX k N M φ ψ own up S (sft p T)) : TB N (320 * p) T := by
  obtain ⟨⟨a1, a2, a3, a4, a5⟩, _⟩ := h
  have nX : ∀ m, m < N → (T.1 627 (320 * p + m) = -1 ∨ ∃ t : Nat, T.1 627 (320 * p + m) = (t : Int)) ∧ (T.1 626 (320 * p + m) = -1 ∨ ∃ t : Nat, T.1 626 (320 * p + m) = (t : Int)) := fun m hm => by
    have w : ∀ {x y : Int} {f : Nat → Nat}, lnk N (fun t => t < N) f x y → x = -1 ∨ ∃ t : Nat, x = (t : Int) := fun {x y f} h => by
      rcases h with z | ⟨t, z, _⟩
      · exact Or.inl z.1
      · exact Or.inr ⟨t, z⟩
    rw [← sft_1 (p := p) (T := T) (c := 627) (m := m) (by omega) (by omega), ← sft_1 (p := p) (T := T) (c := 626) (m := m) (by omega) (by omega)]
    by_cases e : m = 0
    · subst e
      exact ⟨Or.inl a1.2.2.2.2.2.1, w a1.2.1.2.2.2.2.2⟩
    · rcases (a1.1 m hm e).2.2.2 with ⟨_, z1, z2⟩ | ⟨_, z1, z2⟩
      · exact ⟨w z2, w z1⟩
      · exact ⟨w z2, w z1⟩
  have lV : ∀ m t : Nat, m < N → (T.1 626 (320 * p + m) = (t : Int) ∨ T.1 627 (320 * p + m) = (t : Int)) → m < t ∧ t < N := fun m t hm ht => by
    rw [← sft_1 (p := p) (T := T) (c := 627) (m := m) (by omega) (by omega), ← sft_1 (p := p) (T := T) (c := 626) (m := m) (by omega) (by omega)] at ht
    exact (a4.2 m hm).1 t ht
  refine ⟨fun t ht => ?_, fun m hm => ?_, fun m hm => ⟨?_, fun hk hc => ?_⟩⟩
  · show T.1 627 (320 * p + t) = -1 ∨ _
    rcases (nX t ht).1 with z | ⟨u, z⟩
    · exact Or.inl z
    · exact Or.inr ⟨u, z, lV t u ht (Or.inr z)⟩
  · rcases (nX m hm).2 with z | ⟨u, z⟩
    · exact Or.inl z
    · exact Or.inr ⟨u, z, lV m u hm (Or.inl z)⟩
  · by_cases z : T.1 630 (320 * p + m) = -1
    · exact Or.inl z
    · have q := (a4.1 m hm).2.1
      rw [sft_1 (by omega) (by omega), sft_1 (by omega) (by omega), sft_1 (by omega) (by omega)] at q
      have := q z
      exact Or.inr ⟨this.1, this.2.1⟩
  · have q := (a4.2 m hm).2.2.2
    rw [sft_1 (by omega) (by omega), sft_1 (by omega) (by omega)] at q
    exact (q (by omega)).mpr hk hc
end FACTR2
