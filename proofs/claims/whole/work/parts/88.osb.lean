/-! MENDING: filling, the loop -/
section OSB
variable {Q p k t n m len s : Nat} {S S2 S' T T2 T' U V : ev_St} {a c d e f v x md al st num x7 : Int} {A : Int → Int}
theorem tlk_b (c d : Int) : 1 ≤ tl_k c d ∧ tl_k c d ≤ 4 := by
  unfold tl_k
  (repeat' split) <;> first | omega | (simp only [and_true, true_and]; omega)
theorem tls_b {c : Int} (h : st = 0 ∨ st = 1 ∨ st = 2) : tl_st st c = 0 ∨ tl_st st c = 1 ∨ tl_st st c = 2 := by
  unfold tl_st
  (repeat' split) <;> first | omega | (simp only [and_true, true_and]; omega)
/-- an item that is not alive: the reference goes past it -/
theorem r340_dead {K : Int → Int → Int → Int → Int → Int → ev_St → Option (Unit × ev_St)} {i : Nat} (hQ : 200 ≤ Q) (hF : FLC Q k p t len n S T) (hk : i < n) (h3 : sp_at S (553 + 2 * t) ((i : Int) + 2) = e) (hv : tl_is 1 st c d e f = 1) (hnum : 1 ≤ num ∧ num ≤ 99) (c63 : c ≠ 63) (c125 : ¬ (0 < st ∧ c = 125)) (c124 : ¬ (0 < st ∧ c = 124)) : R340 Q (p : Int) num K md st 0 x7 ((120 * t + i : Nat) : Int) ((120 * t + n : Nat) : Int) c d T = K md st 0 x7 (((120 * t + i : Nat) : Int) + tl_k c d) ((120 * t + n : Nat) : Int) T := by
  obtain ⟨g1, g2, g3, g4⟩ := hF.2.2.2.2.2.2
  obtain ⟨b1, b2⟩ := hF.2.1
  have p8 : 0 ≤ ((120 * t + i : Nat) : Int) ∧ ((120 * t + i : Nat) : Int) ≤ 1000 := by omega
  obtain ⟨Q', rfl⟩ : ∃ r, Q = r + 1 := ⟨Q - 1, by omega⟩
  have cv := (ch_d_i d)
  have lv := (ch_l_i e)
  unfold tl_is at hv
  rw [if_neg (by decide)] at hv
  by_cases z1 : c = 92
  · subst z1
    rw [r340_92 p8 (by omega), if_pos rfl]
    rfl
  · by_cases z2 : c = 36
    · subst z2
      rw [if_pos rfl] at hv
      by_cases w1 : ch_d d = 1
      · have dr := cv.1.mp w1
        have tk : tl_k 36 d = 2 := by
          unfold tl_k
          rw [if_pos rfl, if_pos w1]
        rw [r340_d p8 dr, if_pos rfl, sp_b, j193_stop (Or.inr (Or.inl rfl)), tk]
      · have nm : d = 123 ∧ ch_l e = 1 ∧ f = 125 := by
          split at hv
          · omega
          · omega
        obtain ⟨n1, n2, n3⟩ := nm
        have er := lv.1.mp n2
        have tk : tl_k 36 d = 4 := by
          unfold tl_k
          rw [if_pos rfl, if_neg w1]
        have i2 : i + 2 < n := by
          apply Classical.byContradiction
          intro y
          unfold sp_at at h3
          rw [if_neg (by omega)] at h3
          omega
        have e700 : T.1 700 ((((120 * t + i : Nat) : Int) + 2)).toNat = e := by
          rw [show ((((120 * t + i : Nat) : Int) + 2)).toNat = 120 * t + (i + 2) by omega, (g4 (i + 2) i2).1, ← h3]
          unfold sp_at
          rw [if_pos (by omega), show ((i : Int) + 2).toNat = i + 2 by omega]
        rw [r340_n p8 n1 e700 er (by omega) (by omega) rfl, if_pos (Or.inr rfl), sp_b, j193_stop (Or.inr (Or.inl rfl)), tk]
    · rw [r340_chr z2 z1 c63 p8, if_neg c125, if_neg (fun y => c124 ⟨by omega, y.2⟩), if_pos rfl]
      have tk : tl_k c d = 1 := by
        unfold tl_k
        rw [if_neg z2, if_neg z1, if_neg c63]
      rw [tk]
theorem fl_loop (hQ : 200 ≤ Q) (hnum : 1 ≤ num ∧ num ≤ 99) : ∀ (m q q' i s : Nat) (st al x7 md : Int) (S T : ev_St), FLC Q k p t len n S T → (∀ x : Int, sp_at S (553 + 2 * t) x = A x) → tl_v A (n : Int) m (i : Int) st → (st = 0 ∨ st = 1 ∨ st = 2) → (al = 0 ∨ al = 1) → (st = 1 → x7 = al) → MD s S T → S.1 269 11 = md → (md = 0 ∨ md = 1 ∨ md = 2) → m ≤ q → m ≤ q' → i ≤ n + 4 → s + 160 * (n + 4 - i) ≤ 1980000 → ∃ s' S' T', jl_50_17 Q (553 + 2 * t + 1) 282 num q (if st ≤ 0 then 0 else 1) al (i : Int) S = some ((), S') ∧ jl_340_29 Q (p : Int) num q' md st al x7 ((120 * t + i : Nat) : Int) ((120 * t + n : Nat) : Int) T = some ((), T') ∧ MD s' S' T' ∧ FRmS S S' ∧ FRmT T T' ∧ s ≤ s' ∧ s' ≤ s + 160 * (n + 4 - i) := fun m => by
  induction m with
  | zero => exact fun q q' i s st al x7 md S T _ _ h => h.elim
  | succ m ih =>
    intro q q' i s st al x7 md S T hF hA hv hst hal h7 hM h11 hm hq hq' hi hs
    obtain ⟨q, rfl⟩ : ∃ r, q = r + 1 := ⟨q - 1, by omega⟩
    obtain ⟨q', rfl⟩ : ∃ r, q' = r + 1 := ⟨q' - 1, by omega⟩
    obtain ⟨g1, g2, g3, g4⟩ := hF.2.2.2.2.2.2
    have cdef : jl_50_17 Q (553 + 2 * t + 1) 282 num (q + 1) (if st ≤ 0 then 0 else 1) al (i : Int) S = jb_50_17 Q (553 + 2 * t + 1) 282 num (jl_50_17 Q (553 + 2 * t + 1) 282 num q) (if st ≤ 0 then 0 else 1) al (i : Int) S := rfl
    have rdef : jl_340_29 Q (p : Int) num (q' + 1) md st al x7 ((120 * t + i : Nat) : Int) ((120 * t + n : Nat) : Int) T = jb_340_29 Q (p : Int) num (jl_340_29 Q (p : Int) num q') md st al x7 ((120 * t + i : Nat) : Int) ((120 * t + n : Nat) : Int) T := rfl
    rw [cdef, rdef]
    by_cases hk : i < n
    · have hv0 : tl_is 1 st (A i) (A ((i : Int) + 1)) (A ((i : Int) + 2)) (A ((i : Int) + 3)) = 1 ∧ tl_v A (n : Int) m ((i : Int) + tl_k (A i) (A ((i : Int) + 1))) (tl_st st (A i)) := by
        rw [tl_v, if_neg (by omega)] at hv
        exact hv
      obtain ⟨v1, v2⟩ := hv0
      obtain ⟨c, hc⟩ : ∃ c, A (i : Int) = c := ⟨_, rfl⟩
      obtain ⟨d, hd⟩ : ∃ c, A ((i : Int) + 1) = c := ⟨_, rfl⟩
      obtain ⟨e, he⟩ : ∃ c, A ((i : Int) + 2) = c := ⟨_, rfl⟩
      obtain ⟨f, hf⟩ : ∃ c, A ((i : Int) + 3) = c := ⟨_, rfl⟩
      rw [hc, hd, he, hf] at v1
      rw [hc, hd] at v2
      have b := tlk_b c d
      obtain ⟨kk, hkk⟩ : ∃ kk : Nat, tl_k c d = (kk : Int) := ⟨(tl_k c d).toNat, by omega⟩
      have rdd : -1 ≤ d ∧ d ≤ 1000 := by
        rw [← hd, ← hA]
        unfold sp_at
        by_cases z : 0 ≤ (i : Int) + 1 ∧ (i : Int) + 1 < S.1 (553 + 2 * t) 1
        · rw [if_pos z]
          have := sp_sign_r (g4 ((i : Int) + 1).toNat (by omega)).2
          omega
        · rw [if_neg z]
          omega
      have nk := tl_nk v1 hst
      have cin := c50_in (K3 := jl_50_17 Q (553 + 2 * t + 1) 282 num q) (x2 := (if st ≤ 0 then 0 else 1)) (x3 := al) (num := num) (N := tl_k c d) hF hk (by rw [hA, hA, hA, hA, hc, hd, he, hf]; exact nk) b (by rw [hA, hd]; exact rdd)
      have rin := r340_in (K29 := jl_340_29 Q (p : Int) num q') (a0 := (p : Int)) (a2 := num) (x4 := md) (x5 := st) (x6 := al) (x7 := x7) hF hk
      rw [hA, hA, hc, hd] at cin rin
      rw [cin, rin]
      rw [hkk] at v2 ⊢
      rw [show (i : Int) + (kk : Int) = ((i + kk : Nat) : Int) by omega] at v2 ⊢
      have st0 : (if st ≤ 0 then (0 : Int) else 1) ≠ 0 ↔ 0 < st := by
        by_cases z : st ≤ 0
        · rw [if_pos z]
          exact ⟨fun y => absurd rfl y, fun y => by omega⟩
        · rw [if_neg z]
          exact ⟨fun _ => by omega, fun _ => by decide⟩
      have p8 : 0 ≤ ((120 * t + i : Nat) : Int) ∧ ((120 * t + i : Nat) : Int) ≤ 1000 := by omega
      have e8 : ((120 * t + i : Nat) : Int) + (kk : Int) = ((120 * t + (i + kk) : Nat) : Int) := by omega
      by_cases c63 : c = 63
      · subst c63
        have tk : tl_k 63 d = 3 := rfl
        have k3 : kk = 3 := by omega
        subst k3
        have ts : tl_st st 63 = 1 := rfl
        rw [ts] at v2
        rw [if_pos rfl, r340_63 p8 rdd]
        have dr : 48 ≤ d ∧ d ≤ 57 := by
          unfold tl_is at v1
          rw [if_neg (by decide), if_neg (by decide), if_neg (by decide), if_pos rfl] at v1
          split at v1
          · rename_i y
            exact (ch_d_i d).1.mp y.2.1
          · omega
        obtain ⟨g, hg⟩ : ∃ g : Nat, d - 48 = (g : Int) := ⟨(d - 48).toNat, by omega⟩
        rw [hg]
        rcases grp_two hF (show g < 10 by omega) with ⟨y1, y2⟩ | ⟨u, w, _, _, _, _, y1, y2⟩
        · obtain ⟨s', S', T', r1, r2, r3, r4, r5, r6⟩ := ih q q' (i + 3) s 1 0 0 md S T hF hA v2 (Or.inr (Or.inl rfl)) (Or.inl rfl) (fun _ => rfl) hM h11 hm (by omega) (by omega) (by omega) (by omega)
          refine ⟨s', S', T', ?_, ?_, r3, r4, r5, by omega⟩
          · rw [y1, sp_bd, if_pos (by decide)]
            exact r1
          · rw [y2, sp_bd, show ((120 * t + i : Nat) : Int) + 3 = ((120 * t + (i + 3) : Nat) : Int) by omega]
            exact r2
        · obtain ⟨s', S', T', r1, r2, r3, r4, r5, r6⟩ := ih q q' (i + 3) s 1 1 1 md S T hF hA v2 (Or.inr (Or.inl rfl)) (Or.inr rfl) (fun _ => rfl) hM h11 hm (by omega) (by omega) (by omega) (by omega)
          refine ⟨s', S', T', ?_, ?_, r3, r4, r5, by omega⟩
          · rw [y1, sp_bd, if_neg (by omega)]
            exact r1
          · rw [y2, sp_bd, show ((120 * t + i : Nat) : Int) + 3 = ((120 * t + (i + 3) : Nat) : Int) by omega]
            exact r2
      · rw [if_neg c63]
        by_cases c4 : 0 < st ∧ c = 124
        · obtain ⟨c4a, c4b⟩ := c4
          subst c4b
          have s1 : st = 1 := by
            unfold tl_is at v1
            rw [if_neg (by decide), if_neg (by decide), if_neg (by decide), if_neg (by decide), if_pos ⟨c4a, rfl⟩] at v1
            by_cases z : st = 1
            · exact z
            · rw [if_neg z] at v1
              exact absurd v1 (by decide)
          subst s1
          have k1 : kk = 1 := by
            have tk : tl_k 124 d = 1 := rfl
            omega
          subst k1
          have ts : tl_st 1 124 = 2 := rfl
          rw [ts] at v2
          rw [if_pos (show (if (1 : Int) ≤ 0 then (0 : Int) else 1) ≠ 0 ∧ (124 : Int) = 124 from ⟨by decide, rfl⟩), r340_chr (by decide) (by decide) (by decide) p8, if_neg (show ¬ ((0 : Int) < 1 ∧ (124 : Int) = 125) from by decide), if_pos (show (1 : Int) = 1 ∧ (124 : Int) = 124 from ⟨rfl, rfl⟩), h7 rfl, show (if (1 : Int) ≤ 0 then (0 : Int) else 1) = (if (2 : Int) ≤ 0 then (0 : Int) else 1) from rfl, show ((120 * t + i : Nat) : Int) + 1 = ((120 * t + (i + 1) : Nat) : Int) by omega]
          rcases hal with rfl | rfl
          · obtain ⟨s', S', T', r1, r2, r3, r4, r5, r6⟩ := ih q q' (i + 1) s 2 1 0 md S T hF hA v2 (Or.inr (Or.inr rfl)) (Or.inr rfl) (fun z => by omega) hM h11 hm (by omega) (by omega) (by omega) (by omega)
            rw [if_neg (show ¬ ((0 : Int) ≠ 0) from fun y => y rfl)]
            exact ⟨s', S', T', r1, r2, r3, r4, r5, by omega⟩
          · obtain ⟨s', S', T', r1, r2, r3, r4, r5, r6⟩ := ih q q' (i + 1) s 2 0 1 md S T hF hA v2 (Or.inr (Or.inr rfl)) (Or.inl rfl) (fun z => by omega) hM h11 hm (by omega) (by omega) (by omega) (by omega)
            rw [if_pos (show (1 : Int) ≠ 0 by decide)]
            exact ⟨s', S', T', r1, r2, r3, r4, r5, by omega⟩
        · rw [if_neg (fun y => c4 ⟨st0.mp y.1, y.2⟩)]
          by_cases c5 : 0 < st ∧ c = 125
          · obtain ⟨c5a, c5b⟩ := c5
            subst c5b
            have k1 : kk = 1 := by
              have tk : tl_k 125 d = 1 := rfl
              omega
            subst k1
            have ts : tl_st st 125 = 0 := by
              unfold tl_st
              rw [if_neg (by decide), if_pos ⟨c5a, rfl⟩]
            rw [ts] at v2
            rw [if_pos ⟨st0.mpr c5a, rfl⟩, r340_chr (by decide) (by decide) (by decide) p8, if_pos ⟨c5a, rfl⟩, show ((120 * t + i : Nat) : Int) + 1 = ((120 * t + (i + 1) : Nat) : Int) by omega]
            obtain ⟨s', S', T', r1, r2, r3, r4, r5, r6⟩ := ih q q' (i + 1) s 0 1 x7 md S T hF hA v2 (Or.inl rfl) (Or.inr rfl) (fun z => by omega) hM h11 hm (by omega) (by omega) (by omega) (by omega)
            exact ⟨s', S', T', r1, r2, r3, r4, r5, by omega⟩
          · rw [if_neg (fun y => c5 ⟨st0.mp y.1, y.2⟩)]
            have ts : tl_st st c = st := by
              unfold tl_st
              rw [if_neg c63, if_neg c5, if_neg c4]
            rw [ts] at v2
            rcases hal with rfl | rfl
            · rw [if_pos rfl, r340_dead hQ hF hk (by rw [hA]; exact he) v1 hnum c63 c5 c4, hkk, e8]
              obtain ⟨s', S', T', r1, r2, r3, r4, r5, r6⟩ := ih q q' (i + kk) s st 0 x7 md S T hF hA v2 hst (Or.inl rfl) h7 hM h11 hm (by omega) (by omega) (by omega) (by omega)
              exact ⟨s', S', T', r1, r2, r3, r4, r5, by omega⟩
            · rw [if_neg (by decide)]
              obtain ⟨s1, S1, T1, md1, q1, q2, q3, q4, q5, q6, q7, q8⟩ := it_two (K := jl_340_29 Q (p : Int) num q') (x7 := x7) hQ hF hk (fun _ => rfl) (by rw [hA]; exact hc) (by rw [hA]; exact hd) (by rw [hA]; exact he) (by rw [hA]; exact hf) v1 c63 c5 c4 hM h11 hm (by omega) hnum
              obtain ⟨s', S', T', r1, r2, r3, r4, r5, r6⟩ := ih q q' (i + kk) s1 st 1 x7 md1 S1 T1 (FLC_c hF q4 q7) (fun x => by
                rw [← hA]
                unfold sp_at
                rw [q4.1 _ _ (by omega) (by omega) (by omega), q4.1 _ _ (by omega) (by omega) (by omega)]) v2 hst (Or.inr rfl) h7 q3 q5 q6 (by omega) (by omega) (by omega) (by omega)
              refine ⟨s', S', T', ?_, ?_, r3, FRmS_t q4 r4, FRmT_t q7 r5, by omega⟩
              · rw [q1, sp_bd]
                exact r1
              · rw [q2, hkk, e8]
                exact r2
    · refine ⟨s, S, T, ?_, ?_, hM, FRmS_r, FRmT_r, by omega⟩
      · unfold jb_50_17
        rw [sp_if (by omega), show 553 + 2 * t + 1 - 1 = 553 + 2 * t from rfl, sp_b, g2, if_pos (by omega)]
      · unfold jb_340_29
        rw [if_pos (by omega)]
/-- a template is filled in -/
theorem fl_two (hQ : 200 ≤ Q) (hnum : 1 ≤ num ∧ num ≤ 99) (hF : FLC Q k p t len n S T) (hv : tl_v (sp_at S (553 + 2 * t)) (n : Int) 130 0 0) (h01 : T.1 701 t = (n : Int)) (hM : MD s S T) (hs : s ≤ 1900000) : ∃ s' S' T', jm_50 Q (553 + 2 * t + 1) 282 num S = some ((), S') ∧ jm_340 Q (p : Int) (t : Int) num T = some ((), T') ∧ MD s' S' T' ∧ FRmS S S' ∧ FRmT T T' ∧ s ≤ s' ∧ s' ≤ s + 20000 := by
  obtain ⟨g1, g2, g3, g4⟩ := hF.2.2.2.2.2.2
  obtain ⟨l36, l38, l79, l80, l78, l00, l01, l26, _⟩ := al_fl
  have f0 : FRmS S (ev_pI S 269 11 0) := ⟨fun c g y1 y2 y3 => by rw [sp_pI1, if_neg y3], rfl⟩
  obtain ⟨s', S', T', r1, r2, r3, r4, r5, r6⟩ := fl_loop (A := sp_at S (553 + 2 * t)) hQ hnum 130 Q Q 0 s 0 1 1 0 (ev_pI S 269 11 0) T (FLC_c hF f0 FRmT_r) (fun x => by
    unfold sp_at
    rw [rd_nk (by omega), rd_nk (by omega)]) hv (Or.inl rfl) (Or.inr rfl) (fun z => by omega) ⟨hM.1, by rw [rd_nk (by decide)]; exact hM.2.1, fun i a b => by rw [rd_nk (by decide)]; exact hM.2.2 i a b⟩ rd_eq (Or.inl rfl) (by omega) (by omega) (by omega) (by omega)
  have bd : 160 * (n + 4 - 0) ≤ 20000 := by
    clear hv hF r1 r2
    omega
  refine ⟨s', S', T', ?_, ?_, r3, FRmS_t f0 r4, r5, r6.1, Nat.le_trans r6.2 (Nat.add_le_add_left bd s)⟩
  · unfold jm_50
    rw [sp_b]
    exact r1
  · unfold jm_340
    rw [sp_ck (by omega), sp_if (by rw [l01]; omega), sp_b, Int.toNat_natCast, h01, sp_ck (by omega), show 120 * (t : Int) = ((120 * t + 0 : Nat) : Int) by omega, show ((120 * t + 0 : Nat) : Int) + (n : Int) = ((120 * t + n : Nat) : Int) by omega]
    exact r2
end OSB
