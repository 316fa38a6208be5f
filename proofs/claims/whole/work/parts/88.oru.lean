/-! STREAMS: finish -/
section ORU
variable {Q s p len B B2 L j : Nat} {xs : Nat → Int32} {S S1 S2 T U V : ev_St} {an : Bool} {a x y v : Int}
theorem op_31 (hQ : 1000000 ≤ Q) (hK : sp_PT S) (hZ : sp_ZR S) (hST : sp_ST B S) (hD : sp_DR S) (hL : L ≤ 3072) (hj : j + 6 ≤ L) : ∃ S2, (∀ K, ja_2160 Q L xs (j : Int) K S = K S2) ∧ sp_FT S S2 ∧ sp_ST (B + 90) S2 ∧ sp_DR S2 := by
  obtain ⟨a, ha⟩ : ∃ a, a = (xs (Int.toNat ((j : Int) + 1))).toInt := ⟨_, rfl⟩
  obtain ⟨t1, t2, t3⟩ := hST.1
  obtain ⟨k1, k2, k3⟩ := hK.1
  have l720 : ev_aln 720 = 4 := al_318.2.2.2.2.2.2.2.2.2.2.1
  have c2 := c202 (Q := Q) (a := a) ⟨t1, t2⟩
  by_cases h : 0 ≤ a ∧ a < S.1 0 18
  · obtain ⟨s, hs⟩ : ∃ s : Nat, a = (s : Int) := ⟨a.toNat, by omega⟩
    have as : a.toNat = s := by omega
    have hs4 : s < 4 := by omega
    rw [if_pos h, as] at c2
    have sl := hST.2.1 s hs4 (by omega)
    have e3 := StL_3 sl
    by_cases z : S.1 (569 + 13 * s) 3 = 0
    · obtain ⟨S1, hS1⟩ : ∃ S1, S1 = ev_pI S (569 + 13 * s) 3 1 := ⟨_, rfl⟩
      have one : ∀ y : Int64, ∃ v W, jm_149 Q (569 + 13 * s) S1 = some (v, S1) ∧ jm_323 Q a (ev_pL S1 723 0 y) = some (v, W) ∧ (sp_FT S W ∧ sp_ST (B + 90) W ∧ sp_DR W) ∧ W.1 621 0 = 0 ∧ W.2.1 723 0 = y := fun y => by
        obtain ⟨U0, hU0⟩ : ∃ U0, U0 = ev_pI (ev_pL S1 723 0 y) 621 0 0 := ⟨_, rfl⟩
        obtain ⟨U, hU⟩ : ∃ U, U = ev_pI U0 720 s 1 := ⟨_, rfl⟩
        have u0 : ∀ c g, ¬ (c = 621 ∧ g = 0) → U0.1 c g = S1.1 c g := fun c g y => by
          rw [hU0, sp_pI1, if_neg y]
          rfl
        have s1 : ∀ c g, ¬ (c = 569 + 13 * s ∧ g = 3) → S1.1 c g = S.1 c g := fun c g y => by rw [hS1, sp_pI1, if_neg y]
        have u1 : ∀ c g, ¬ (c = 720 ∧ g = s) → U.1 c g = U0.1 c g := fun c g y => by rw [hU, sp_pI1, if_neg y]
        have uI : ∀ c g, ¬ (c = 720 ∧ g = s) → ¬ (c = 621 ∧ g = 0) → ¬ (c = 569 + 13 * s ∧ g = 3) → U.1 c g = S.1 c g := fun c g y1 y2 y3 => by rw [u1 c g y1, u0 c g y2, s1 c g y3]
        have uL : ∀ c g, U.2.1 c g = if c = 723 ∧ g = 0 then y else S.2.1 c g := fun c g => by
          rw [hU, sp_pI2, hU0, sp_pI2, sp_pL2, hS1]
          rfl
        have u3 : U.2.2 = S.2.2 := by
          rw [hU, hU0, hS1]
          rfl
        have ul : ∀ c g, c ≠ 723 → U.2.1 c g = S.2.1 c g := fun c g y => by rw [uL, if_neg (fun z => y z.1)]
        have fu : sp_FT S U := ⟨fun c g y => uI c g (fun z => y (Or.inr (Or.inr (Or.inr (Or.inl (by omega)))))) (fun z => y (Or.inl (by omega))) (fun z => y (Or.inr (Or.inr (Or.inl (by omega))))), ul, fun c g _ => by rw [u3], by rw [u3], by rw [u3], by rw [u3]; exact Nat.le_succ _, by rw [u3]; exact Nat.le_add_right _ _⟩
        have sU : StL s (B + 90) U := StL_c sl (Nat.le_add_right _ _) (by rw [uI _ _ (by omega) (by omega) (by omega)]; exact Int.le_refl _) (fun c g y1 y2 y3 => uI c g (by omega) (by omega) y3) (by rw [show U.1 720 s = 1 from by rw [hU, rd_eq], u1 _ _ (by omega), u0 _ _ (by omega), hS1, rd_eq]) (fun i => by rw [u3]) (fun c y1 y2 y3 => uI c _ (by omega) (by omega) (by omega)) (fun j _ => uI _ _ (by omega) (by omega) (by omega)) (fun p hp => ⟨fun c g y1 y2 => ⟨uI c g (by omega) (by omega) (by omega), ul c g (by omega)⟩, fun c g y1 y2 _ _ => uI c g (by omega) (by omega) (by omega)⟩)
        have e18 : U.1 0 18 = S.1 0 18 := uI _ _ (by omega) (by omega) (by omega)
        have e139 : U0.1 621 139 = S.1 0 18 := by rw [u0 _ _ (by omega), s1 _ _ (by omega), t3]
        have su : sp_ST (B + 90) U := ST_one hST (Nat.le_add_right _ _) hs4 k2 ⟨by rw [e18]; exact t1, by rw [e18]; exact t2, by rw [e18, u1 _ _ (by omega)]; exact e139⟩ (fun t _ => by rw [e18]) (by rw [e18]; omega) sU (fun c g y1 y2 _ _ _ y3 => uI c g (by omega) (by omega) (by omega)) ul (fun c i _ => by rw [u3])
        obtain ⟨v, ⟨W, w1, w2, w3⟩, tl⟩ := tell_two (Q := Q) (PT_FT hK fu) (ZR_FT hZ fu) hs4 sU (by omega)
        refine ⟨v, W, tl S1 (fun c g _ _ => by rw [u1 _ _ (by omega), u0 _ _ (by omega)]) (fun i => by rw [u3, hS1]; rfl), ?_, tl_end fu su (DR_c2 (fun c g y => uI c g (by omega) (by omega) (by omega)) hD) (by rw [uI _ _ (by omega) (by omega) (by omega)]; exact k2) w2 w3, ?_, ?_⟩
        · unfold jm_323
          rw [sp_b, ← hU0, c320 e139 ⟨t1, t2⟩, if_pos h, sp_bd, if_pos (by decide), sp_if (by rw [l720]; omega), sp_b, as, u0 _ _ (by omega), s1 _ _ (by omega), ← e3, if_pos z, sp_if (by rw [l720]; omega), sp_b, ← hU, hs, w1, sp_bd]
        · rw [w2 _ _ (by omega) (by omega) (by omega), u1 _ _ (by omega), hU0, rd_eq]
        · rw [w3, uL, if_pos ⟨rfl, rfl⟩]
      obtain ⟨v, _, v1, _⟩ := one 0
      obtain ⟨v', W, v1', w1, w2, w3, w4⟩ := one (ev_i2l v)
      have vv : v' = v := (congrArg Prod.fst (Option.some.inj (v1.symm.trans v1'))).symm
      rw [vv] at w1
      have cl : jm_197 Q a S = some (.inl v, S1) := by
        unfold jm_197
        rw [c2, sp_bd, if_neg (by omega), show 569 + 13 * s + 1 - 1 = 569 + 13 * s from rfl, sp_b, if_pos z, sp_b, ← hS1, v1, sp_bd]
      exact ⟨W, fun K => la_31 (c := 0) (b := v) hL hj (by rw [← ha]; exact lw_31_ok a cl) (by rw [← ha]; exact w1) w3 (fun _ => w4), w2⟩
    · have cl : jm_197 Q a S = some (.inr "java/lang/IllegalStateException", ev_tick S) := by
        unfold jm_197
        rw [c2, sp_bd, if_neg (by omega), show 569 + 13 * s + 1 - 1 = 569 + 13 * s from rfl, sp_b, if_neg z]
      have rf : jm_323 Q a (ev_tick S) = some (0, ev_pI (ev_pI (ev_tick S) 621 0 0) 621 0 2) := by
        unfold jm_323
        rw [sp_b, c320 (T := ev_pI (ev_tick S) 621 0 0) (y := S.1 0 18) ((rd_nf (by decide)).trans t3) ⟨t1, t2⟩, if_pos h, sp_bd, if_pos (by decide), sp_if (by rw [l720]; omega), sp_b, as, rd_nk (by decide), show (ev_tick S).1 720 s = S.1 720 s from rfl, ← e3, if_neg z]
        rfl
      rw [pI_pI] at rf
      exact ⟨_, fun K => la_31 (c := 2) (b := 0) hL hj (by rw [← ha]; exact lw_31_x1 a cl) (by rw [← ha]; exact rf) rd_eq (fun z => absurd z (by decide)), st_no hST hD k2⟩
  · rw [if_neg h] at c2
    have cl : jm_197 Q a S = some (.inr "java/lang/IndexOutOfBoundsException", ev_tick S) := by
      unfold jm_197
      rw [c2, sp_bd, if_pos rfl]
    have rf : jm_323 Q a (ev_tick S) = some (0, ev_pI (ev_pI (ev_tick S) 621 0 0) 621 0 1) := by
      unfold jm_323
      rw [sp_b, c320 (T := ev_pI (ev_tick S) 621 0 0) (y := S.1 0 18) ((rd_nf (by decide)).trans t3) ⟨t1, t2⟩, if_neg h, sp_bd, if_neg (fun z => z rfl)]
      rfl
    rw [pI_pI] at rf
    exact ⟨_, fun K => la_31 (c := 1) (b := 0) hL hj (by rw [← ha]; exact lw_31_x0 a cl) (by rw [← ha]; exact rf) rd_eq (fun z => absurd z (by decide)), st_no hST hD k2⟩
end ORU
