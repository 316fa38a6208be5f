/-! TEMPLATES: the call -/
theorem K2_c {β : Type} {K : Int → Int → ev_St → Option β} {a b a' b' : Int} {S : ev_St} (h1 : a = a') (h2 : b = b') : K a b S = K a' b' S := by rw [h1, h2]
theorem sp_is1 : ev_isOb 1 10 = true := by decide +kernel
theorem sp_48b {Q : Nat} {K : Int → Int → ev_St → Option (Int × ev_St)} {st k : Int} {S : ev_St} (hn : 0 ≤ S.1 1 1 ∧ S.1 1 1 ≤ 120) (hk : 0 ≤ k ∧ k ≤ 150) (hs : st = 0 ∨ st = 1 ∨ st = 2) : jb_48_6 Q (1 + 1) K st k S = if S.1 1 1 ≤ k then some (if st ≠ 0 then 0 else 1, S) else if tl_n (sp_at S 1 k) (sp_at S 1 (k + 1)) (sp_at S 1 (k + 2)) (sp_at S 1 (k + 3)) (if st ≤ 0 then 0 else 1) < 1 ∨ (sp_at S 1 k = 124 ∧ st = 2) then some (0, S) else K (if sp_at S 1 k = 63 then 1 else if st = 0 ∨ sp_at S 1 k = 125 then 0 else if sp_at S 1 k = 124 then 2 else st) (k + tl_n (sp_at S 1 k) (sp_at S 1 (k + 1)) (sp_at S 1 (k + 2)) (sp_at S 1 (k + 3)) (if st ≤ 0 then 0 else 1)) S := by
  have h49 := fun s => sp_49 (Q := Q) (k := 1) (p := k) (s := s) (S := S) sp_is1 (by omega) (by omega)
  have hb : ∀ s, 0 ≤ tl_n (sp_at S 1 k) (sp_at S 1 (k + 1)) (sp_at S 1 (k + 2)) (sp_at S 1 (k + 3)) s ∧ tl_n (sp_at S 1 k) (sp_at S 1 (k + 1)) (sp_at S 1 (k + 2)) (sp_at S 1 (k + 3)) s ≤ 4 := fun s => by
    unfold tl_n
    (repeat' split) <;> first | omega | (simp only [and_true, true_and]; omega)
  unfold jb_48_6
  rw [sp_if (by omega), show 1 + 1 - 1 = 1 from rfl, sp_b]
  by_cases h : S.1 1 1 ≤ k
  · rw [if_pos h, if_pos h]
    split <;> rfl
  · rw [if_neg h, if_neg h]
    have e : (ev_jn (fun (x14 : Int) (x13 : Int) (r12 : Nat) (s19 : ev_St) => ev_bd (jm_49 Q r12 x13 x14 s19) fun x21 s20 => ev_if ((1 + 1 : Nat) ≠ 0) (ev_bd (jm_151 Q 1 k s20) fun x24 s23 => if x21 < 1 then (some ((0 : Int), s23)) else (ev_jn (fun (s32 : ev_St) => ev_jn (fun (x33 : Int) (s38 : ev_St) => ev_ck (k + x21) fun x39 => K x33 x39 s38) fun K93 => if x24 ≠ 63 then (ev_jn (fun (s45 : ev_St) => K93 0 s45) fun K77 => if st = 0 then (K77 s32) else (if x24 ≠ 125 then (if x24 ≠ 124 then (K93 st s32) else (K93 2 s32)) else (K77 s32))) else (K93 1 s32)) fun K55 => if x24 ≠ 124 then (K55 s23) else (if st ≠ 2 then (K55 s23) else (some (0, s23)))))) fun K25 => if st ≤ 0 then (K25 0 k (1 + 1) S) else (K25 1 k (1 + 1) S)) = (ev_bd (jm_49 Q (1 + 1) k (if st ≤ 0 then 0 else 1) S) fun x21 s20 => ev_if ((1 + 1 : Nat) ≠ 0) (ev_bd (jm_151 Q 1 k s20) fun x24 s23 => if x21 < 1 then (some ((0 : Int), s23)) else (ev_jn (fun (s32 : ev_St) => ev_jn (fun (x33 : Int) (s38 : ev_St) => ev_ck (k + x21) fun x39 => K x33 x39 s38) fun K93 => if x24 ≠ 63 then (ev_jn (fun (s45 : ev_St) => K93 0 s45) fun K77 => if st = 0 then (K77 s32) else (if x24 ≠ 125 then (if x24 ≠ 124 then (K93 st s32) else (K93 2 s32)) else (K77 s32))) else (K93 1 s32)) fun K55 => if x24 ≠ 124 then (K55 s23) else (if st ≠ 2 then (K55 s23) else (some (0, s23)))))) := by
      rw [sp_jn]
      split <;> rfl
    rw [e, h49, sp_bd, sp_if (by decide), sp_151 sp_is1 (by omega), sp_bd]
    have hb := hb (if st ≤ 0 then 0 else 1)
    generalize tl_n (sp_at S 1 k) (sp_at S 1 (k + 1)) (sp_at S 1 (k + 2)) (sp_at S 1 (k + 3)) (if st ≤ 0 then 0 else 1) = N at hb ⊢
    generalize sp_at S 1 k = c
    simp only [sp_jn, sp_ck (show -2147483648 ≤ k + N ∧ k + N ≤ 2147483647 by omega)]
    (repeat' split) <;> first | rfl | exact K2_c (by omega) rfl | (exfalso; omega)
/-- a template, from a place on: its signs a, how many, whether in a condition -/
def tl_v (a : Int → Int) (n : Int) : Nat → Int → Int → Prop
  | 0, _, _ => False
  | m + 1, k, st => if n ≤ k then st = 0 else tl_is 1 st (a k) (a (k + 1)) (a (k + 2)) (a (k + 3)) = 1 ∧ tl_v a n m (k + tl_k (a k) (a (k + 1))) (tl_st st (a k))
section OPSK
variable {Q : Nat} {S T : ev_St}
theorem tl_dead (hn : 0 ≤ T.1 621 1 ∧ T.1 621 1 ≤ 120) : ∀ (m q : Nat) (k st : Int), T.1 621 1 - k ≤ m → m < q → 0 ≤ k → k ≤ T.1 621 1 + 4 → st = 0 ∨ st = 1 ∨ st = 2 → jl_336_6 Q q 0 st k T = some (0, T)
  | m, 0, k, st, _, h, _, _, _ => by omega
  | m, q + 1, k, st, h1, h2, h3, h4, h5 => by
    show jb_336_6 Q (jl_336_6 Q q) 0 st k T = _
    rw [sp_336b hn (by omega) h5 (Or.inl rfl)]
    by_cases h : T.1 621 1 ≤ k
    · rw [if_pos h, if_pos (Or.inl rfl)]
    · cases m with
      | zero => omega
      | succ m =>
        have e1 : ∀ c, tl_st st c = 0 ∨ tl_st st c = 1 ∨ tl_st st c = 2 := fun c => by
          unfold tl_st
          (repeat' split) <;> first | omega | (simp only [and_true, true_and]; omega)
        have e2 : ∀ c d, 1 ≤ tl_k c d ∧ tl_k c d ≤ 4 := fun c d => by
          unfold tl_k
          (repeat' split) <;> first | omega | (simp only [and_true, true_and]; omega)
        have e3 := e2 (rd_at T k) (rd_at T (k + 1))
        rw [if_neg h, show tl_is 0 st (rd_at T k) (rd_at T (k + 1)) (rd_at T (k + 2)) (rd_at T (k + 3)) = 0 from if_pos rfl]
        exact tl_dead hn m q _ _ (by omega) (by omega) (by omega) (by omega) (e1 _)
theorem tl_loop (hn : 0 ≤ S.1 1 1 ∧ S.1 1 1 ≤ 120) (hT : T.1 621 1 = S.1 1 1) (hd : ∀ g : Nat, (g : Int) < S.1 1 1 → T.1 622 g = S.1 2 g) : ∀ (m q q' : Nat) (k st : Int), S.1 1 1 - k ≤ m → m < q → m < q' → 0 ≤ k → k ≤ S.1 1 1 + 4 → st = 0 ∨ st = 1 ∨ st = 2 → ∃ v, (v = 0 ∨ v = 1 ∧ tl_v (sp_at S 1) (S.1 1 1) (m + 1) k st) ∧ jl_48_6 Q (1 + 1) q st k S = some (v, S) ∧ jl_336_6 Q q' 1 st k T = some (v, T)
  | m, 0, q', k, st, _, h, _, _, _, _ => by omega
  | m, q + 1, 0, k, st, _, _, h, _, _, _ => by omega
  | m, q + 1, q' + 1, k, st, h1, h2, h2', h3, h4, h5 => by
    show ∃ v, (v = 0 ∨ v = 1 ∧ tl_v (sp_at S 1) (S.1 1 1) (m + 1) k st) ∧ jb_48_6 Q (1 + 1) (jl_48_6 Q (1 + 1) q) st k S = some (v, S) ∧ jb_336_6 Q (jl_336_6 Q q') 1 st k T = some (v, T)
    rw [sp_336b (by omega) (by omega) h5 (Or.inr rfl), sp_48b hn (by omega) h5, hT]
    by_cases h : S.1 1 1 ≤ k
    · rw [if_pos h, if_pos h]
      by_cases h0 : st = 0
      · exact ⟨1, Or.inr ⟨rfl, (if_pos h).mpr h0⟩, by rw [if_neg (fun z => z h0)], by rw [if_neg (by omega)]⟩
      · exact ⟨0, Or.inl rfl, by rw [if_pos h0], by rw [if_pos (by omega)]⟩
    · rw [if_neg h, if_neg h]
      cases m with
      | zero => omega
      | succ m =>
        have ea : ∀ p : Int, 0 ≤ p → rd_at T p = sp_at S 1 p := fun p hp => by
          unfold rd_at sp_at
          rw [hT]
          by_cases e : p < S.1 1 1
          · rw [if_pos e, if_pos ⟨hp, e⟩, hd _ (by omega)]
          · rw [if_neg e, if_neg (by omega)]
        have hv : ∀ P, (tl_is 1 st (sp_at S 1 k) (sp_at S 1 (k + 1)) (sp_at S 1 (k + 2)) (sp_at S 1 (k + 3)) = 1 ∧ P → P) ∧ (tl_v (sp_at S 1) (S.1 1 1) (m + 1 + 1) k st ↔ (tl_is 1 st (sp_at S 1 k) (sp_at S 1 (k + 1)) (sp_at S 1 (k + 2)) (sp_at S 1 (k + 3)) = 1 ∧ tl_v (sp_at S 1) (S.1 1 1) (m + 1) (k + tl_k (sp_at S 1 k) (sp_at S 1 (k + 1))) (tl_st st (sp_at S 1 k)))) := fun P => ⟨fun z => z.2, by rw [tl_v, if_neg h]⟩
        have hv := (hv True).2
        rw [ea k (by omega), ea (k + 1) (by omega), ea (k + 2) (by omega), ea (k + 3) (by omega)]
        generalize sp_at S 1 k = c at hv ⊢
        generalize sp_at S 1 (k + 1) = d at hv ⊢
        generalize sp_at S 1 (k + 2) = e at hv ⊢
        generalize sp_at S 1 (k + 3) = f at hv ⊢
        have i1 := ch_d_i d
        have i2 := ch_l_i e
        have i3 := ch_e_i d
        have e1 : ∀ c, tl_st st c = 0 ∨ tl_st st c = 1 ∨ tl_st st c = 2 := fun c => by
          unfold tl_st
          (repeat' split) <;> first | omega | (simp only [and_true, true_and]; omega)
        have e2 : ∀ c d, 1 ≤ tl_k c d ∧ tl_k c d ≤ 4 := fun c d => by
          unfold tl_k
          (repeat' split) <;> first | omega | (simp only [and_true, true_and]; omega)
        have e3 := e2 c d
        obtain ⟨s0, hs0, is0⟩ : ∃ s0 : Int, (if st ≤ 0 then (0 : Int) else 1) = s0 ∧ ((s0 = 0 ∧ st ≤ 0) ∨ (s0 = 1 ∧ 0 < st)) := by
          split
          · exact ⟨0, rfl, by omega⟩
          · exact ⟨1, rfl, by omega⟩
        rw [hs0]
        have key : (tl_is 1 st c d e f = 0 ∧ (tl_n c d e f s0 < 1 ∨ (c = 124 ∧ st = 2))) ∨ (tl_is 1 st c d e f = 1 ∧ ¬ (tl_n c d e f s0 < 1 ∨ (c = 124 ∧ st = 2)) ∧ tl_n c d e f s0 = tl_k c d ∧ (if c = 63 then 1 else if st = 0 ∨ c = 125 then 0 else if c = 124 then 2 else st) = tl_st st c) := by
          unfold tl_is tl_n tl_k tl_st
          generalize ch_d d = d1 at i1 ⊢
          generalize ch_l e = e1 at i2 ⊢
          generalize ch_e d = d2 at i3 ⊢
          rw [if_neg (show ¬ ((1 : Int) = 0) by decide)]
          by_cases c36 : c = 36
          · subst c36
            simp only [if_true, if_false, show ¬ ((36 : Int) = 92) by decide, show ¬ ((36 : Int) = 63) by decide, show ¬ ((36 : Int) = 125) by decide, show ¬ ((36 : Int) = 124) by decide, and_false, false_and, or_false]
            (repeat' split) <;> first | omega | (simp only [and_true, true_and]; omega)
          · by_cases c92 : c = 92
            · subst c92
              simp only [if_true, if_false, show ¬ ((92 : Int) = 36) by decide, show ¬ ((92 : Int) = 63) by decide, show ¬ ((92 : Int) = 125) by decide, show ¬ ((92 : Int) = 124) by decide, and_false, false_and, or_false]
              (repeat' split) <;> first | omega | (simp only [and_true, true_and]; omega)
            · by_cases c63 : c = 63
              · subst c63
                simp only [if_true, if_false, show ¬ ((63 : Int) = 36) by decide, show ¬ ((63 : Int) = 92) by decide, show ¬ ((63 : Int) = 125) by decide, show ¬ ((63 : Int) = 124) by decide, and_false, false_and, or_false]
                (repeat' split) <;> first | omega | (simp only [and_true, true_and]; omega)
              · simp only [if_neg c36, if_neg c92, if_neg c63]
                (repeat' split) <;> first | omega | (simp only [and_true, true_and]; omega)
        rcases key with ⟨k1, k2⟩ | ⟨k1, k2, k3, k4⟩
        · rw [if_pos k2, k1]
          exact ⟨0, Or.inl rfl, rfl, tl_dead (by omega) m q' _ _ (by omega) (by omega) (by omega) (by omega) (e1 _)⟩
        · rw [if_neg k2, k1, k3, k4]
          obtain ⟨v, w1, w2, w3⟩ := tl_loop hn hT hd m q q' (k + tl_k c d) (tl_st st c) (by omega) (by omega) (by omega) (by omega) (by omega) (e1 _)
          refine ⟨v, ?_, w2, w3⟩
          rcases w1 with w | ⟨w, w4⟩
          · exact Or.inl w
          · exact Or.inr ⟨w, hv.mpr ⟨k1, w4⟩⟩
end OPSK
/-- the templates are the same on both sides -/
def sp_TR (S : ev_St) : Prop := (0 ≤ S.1 0 7 ∧ S.1 0 7 ≤ 8) ∧ S.1 621 110 = S.1 0 7 ∧ ∀ t : Nat, (t : Int) < S.1 0 7 → S.1 701 t = S.1 (553 + 2 * t) 1 ∧ (0 ≤ S.1 (553 + 2 * t) 1 ∧ S.1 (553 + 2 * t) 1 ≤ 120) ∧ (∀ g : Nat, (g : Int) < S.1 (553 + 2 * t) 1 → S.1 700 (120 * t + g) = S.1 (553 + 2 * t + 1) g ∧ sp_sign (S.1 (553 + 2 * t + 1) g) = 1) ∧ tl_v (sp_at S (553 + 2 * t)) (S.1 (553 + 2 * t) 1) 130 0 0
theorem sp_tmp : ∀ b : Nat, b < 8 → ev_isOb (553 + 2 * b) 10 = true
  | 0, _ => by decide +kernel
  | 1, _ => by decide +kernel
  | 2, _ => by decide +kernel
  | 3, _ => by decide +kernel
  | 4, _ => by decide +kernel
  | 5, _ => by decide +kernel
  | 6, _ => by decide +kernel
  | 7, _ => by decide +kernel
  | b + 8, h => by omega
theorem sp_153 {Q k s : Nat} {S : ev_St} (hk : ev_isOb k 10 = true) (hs : ev_isOb s 10 = true) (h1 : s ≠ k + 1) : jm_153 Q k (s + 1) S = some ((), ev_pI (ev_cpI S (s + 1) (k + 1) 0 0 160) k 1 (S.1 s 1)) := by
  have l1 := sp_len_text hk
  have l2 := sp_len_text hs
  unfold jm_153
  rw [sp_if (by omega), show s + 1 - 1 = s from rfl, sp_if (by rw [l1, l2]; decide), sp_b, sp_if (by omega), sp_b, sp_cp1, if_neg (fun z => h1 z.1), sp_b]
  rfl
def sp_Wt (b g : Nat) : Prop := (b = 0 ∧ g = 7) ∨ (b = 1 ∧ g = 1) ∨ (553 ≤ b ∧ b ≤ 568) ∨ (b = 621 ∧ (g = 0 ∨ g = 1 ∨ g = 110)) ∨ b = 700 ∨ b = 701
theorem sp_337l {Q : Nat} {n t : Int} (hn : 0 ≤ n ∧ n ≤ 120) (ht : 0 ≤ t ∧ t < 8) : ∀ (m q : Nat) (x : Int) (T : ev_St), m < q → x = n - m → 0 ≤ x → T.1 621 1 = n → T.1 621 110 = t → ∃ T1, jl_337_31 Q q x T = some (t, ev_pI (ev_pI (ev_pI T1 701 t.toNat n) 621 1 0) 621 110 (t + 1)) ∧ (∀ g : Nat, T1.1 700 g = if 120 * t + x ≤ (g : Int) ∧ (g : Int) < 120 * t + n then T.1 622 ((g : Int) - 120 * t).toNat else T.1 700 g) ∧ (∀ c g, c ≠ 700 → T1.1 c g = T.1 c g) ∧ T1.2 = T.2
  | m, 0, x, T, h, _, _, _, _ => by omega
  | 0, q + 1, x, T, _, hx, h0, h1, h2 => by
    have l : ev_aln 701 = 8 := by decide +kernel
    refine ⟨T, ?_, fun g => by rw [if_neg (by omega)], fun _ _ _ => rfl, rfl⟩
    show jb_337_31 Q (jl_337_31 Q q) x T = _
    unfold jb_337_31
    rw [sp_b, h1, if_pos (by omega), sp_b, h2, sp_b, sp_if (by rw [l]; omega), sp_b, sp_b, sp_b, rd_nf (by omega), rd_nk (by omega), h2, sp_ck (by omega), sp_b, sp_b, rd_eq, sp_ck (by omega), show t + 1 - 1 = t from by omega]
  | m + 1, q + 1, x, T, hq, hx, h0, h1, h2 => by
    have l : ev_aln 700 = 960 := by decide +kernel
    have l622 := sp_aln622
    have f1 : ∀ c g, c ≠ 700 → (ev_pI T 700 (120 * t + x).toNat (T.1 622 x.toNat)).1 c g = T.1 c g := fun c g hc => rd_nk hc
    obtain ⟨T1, r1, r2, r3, r4⟩ := sp_337l (Q := Q) hn ht m q (x + 1) (ev_pI T 700 (120 * t + x).toNat (T.1 622 x.toNat)) (by omega) (by omega) (by omega) (by rw [f1 621 1 (by omega), h1]) (by rw [f1 621 110 (by omega), h2])
    refine ⟨T1, ?_, fun g => ?_, fun c g hc => by rw [r3 c g hc, f1 c g hc], r4⟩
    · show jb_337_31 Q (jl_337_31 Q q) x T = _
      unfold jb_337_31
      rw [sp_b, h1, if_neg (by omega), sp_b, h2, sp_ck (by omega), sp_ck (by omega), sp_if (by rw [l622]; omega), sp_b, sp_if (by rw [l]; omega), sp_b, sp_ck (by omega)]
      exact r1
    · rw [r2, f1 622 _ (by omega), sp_pI1]
      by_cases e : g = (120 * t + x).toNat
      · rw [if_neg (by omega), if_pos ⟨rfl, e⟩, if_pos (by omega), show ((g : Int) - 120 * t).toNat = x.toNat from by omega]
      · by_cases e2 : 120 * t + x ≤ (g : Int) ∧ (g : Int) < 120 * t + n
        · rw [if_pos (by omega), if_pos e2]
        · rw [if_neg (by omega), if_neg (fun z => e z.2), if_neg e2]
section OPSK2
variable {Q L j : Nat} {xs : Nat → Int32} {S : ev_St}
theorem op_4 (hQ : 1000000 ≤ Q) (hD : sp_DR S) (hT : sp_TR S) (hL : L ≤ 3072) (hj : j + 6 ≤ L) : ∃ S2, (∀ K, ja_357 Q L xs K S = K S2) ∧ sp_DR S2 ∧ sp_TR S2 ∧ sp_F sp_Wt S S2 := by
  have hD0 := hD
  have hT0 := hT
  obtain ⟨d1, d2, d3, d4⟩ := hD
  obtain ⟨⟨t1, t2⟩, t3, t4⟩ := hT
  have TR_c : ∀ {U : ev_St}, (∀ k g, k ≠ 621 → k ≠ 723 → U.1 k g = S.1 k g) → U.1 621 110 = S.1 621 110 → sp_TR U := fun {U} h1 h2 => by
    unfold sp_TR
    rw [h1 0 7 (by omega) (by omega), h2]
    refine ⟨⟨t1, t2⟩, t3, fun t ht => ?_⟩
    obtain ⟨a1, a2, a3, a4⟩ := t4 t ht
    have e : sp_at U (553 + 2 * t) = sp_at S (553 + 2 * t) := funext fun p => by
      unfold sp_at
      rw [h1 _ 1 (by omega) (by omega), h1 (553 + 2 * t + 1) _ (by omega) (by omega)]
    rw [h1 701 t (by omega) (by omega), h1 _ 1 (by omega) (by omega), e]
    exact ⟨a1, a2, fun g hg => by rw [h1 700 _ (by omega) (by omega), h1 _ g (by omega) (by omega)]; exact a3 g hg, a4⟩
  have DR_c : ∀ {U : ev_St}, (∀ k g, k ≠ 621 → k ≠ 723 → U.1 k g = S.1 k g) → U.1 621 1 = S.1 621 1 → sp_DR U := fun {U} h1 h2 => by
    unfold sp_DR
    rw [h1 1 1 (by omega) (by omega), h2]
    exact ⟨d1, d2, d3, fun g hg => by rw [h1 622 g (by omega) (by omega), h1 2 g (by omega) (by omega)]; exact d4 g hg⟩
  by_cases h8 : S.1 0 7 < 8
  · obtain ⟨v, w1, w2, w3⟩ := tl_loop (Q := Q) (S := S) (T := S) ⟨d1, d2⟩ d3 (fun g hg => (d4 g hg).1) 129 Q Q 0 0 (by omega) (by omega) (by omega) (by omega) (by omega) (Or.inl rfl)
    by_cases hv : v = 1
    · subst hv
      have hv := w1.resolve_left (by decide)
      obtain ⟨t, et⟩ : ∃ t : Nat, S.1 0 7 = (t : Int) := ⟨(S.1 0 7).toNat, by omega⟩
      have c1 : jm_170 Q S = some (.inl (t : Int), ev_pI (ev_pI (ev_pI (ev_cpI S 2 (553 + 2 * t + 1) 0 0 160) (553 + 2 * t) 1 (S.1 1 1)) 1 1 0) 0 7 ((t : Int) + 1)) := by
        unfold jm_170
        rw [sp_b, if_pos h8]
        unfold jm_48
        rw [w2, sp_bd, if_pos (by decide), sp_b, et, sp_if (by omega), sp_b, Int.toNat_natCast, sp_153 (sp_tmp t (by omega)) sp_is1 (by omega), sp_bd, sp_b, sp_b, rd_nk (by omega), rd_nk (by omega), sp_cp1, if_neg (by omega), et, sp_ck (by omega), sp_b, sp_b, rd_eq, sp_ck (by omega), show (t : Int) + 1 - 1 = t from by omega]
      generalize hS1 : ev_pI (ev_pI (ev_pI (ev_cpI S 2 (553 + 2 * t + 1) 0 0 160) (553 + 2 * t) 1 (S.1 1 1)) 1 1 0) 0 7 ((t : Int) + 1) = S1 at c1
      have s1 : ∀ k g, k ≠ 553 + 2 * t → k ≠ 553 + 2 * t + 1 → ¬ (k = 1 ∧ g = 1) → ¬ (k = 0 ∧ g = 7) → S1.1 k g = S.1 k g := fun k g h1 h2 h3 h4 => by
        rw [← hS1, sp_pI1, if_neg h4, sp_pI1, if_neg h3, rd_nk h1, sp_cp1, if_neg (fun z => h2 z.1)]
      have s2 : S1.1 (553 + 2 * t) 1 = S.1 1 1 := by rw [← hS1, rd_nk (by omega), rd_nk (by omega), rd_eq]
      have s3 : ∀ g : Nat, (g : Int) < S.1 1 1 → S1.1 (553 + 2 * t + 1) g = S.1 2 g := fun g hg => by
        rw [← hS1, rd_nk (by omega), rd_nk (by omega), rd_nk (by omega), sp_cp1, if_pos ⟨rfl, by omega, by omega⟩, show 0 + (g - 0) = g from by omega]
      have s4 : S1.1 1 1 = 0 := by rw [← hS1, rd_nk (by omega), rd_eq]
      have s5 : S1.1 0 7 = (t : Int) + 1 := by rw [← hS1, rd_eq]
      have s6 : S1.2 = S.2 := by rw [← hS1]; rfl
      have f1 : ∀ k g, ¬ (k = 621 ∧ g = 0) → (ev_pI (ev_pL S1 723 0 (ev_i2l t)) 621 0 0).1 k g = S1.1 k g := fun k g h => if_neg h
      obtain ⟨v', _, _, w3'⟩ := tl_loop (Q := Q) (S := S) (T := ev_pI (ev_pL S1 723 0 (ev_i2l t)) 621 0 0) ⟨d1, d2⟩ (by rw [f1 621 1 (by omega), s1 621 1 (by omega) (by omega) (by omega) (by omega), d3]) (fun g hg => by rw [f1 622 g (by omega), s1 622 g (by omega) (by omega) (by omega) (by omega)]; exact (d4 g hg).1) 129 Q Q 0 0 (by omega) (by omega) (by omega) (by omega) (by omega) (Or.inl rfl)
      have ev : v' = 1 := by
        have q := ‹jl_48_6 Q (1 + 1) Q 0 0 S = some (v', S)›
        rw [w2] at q
        injection q with q
        injection q with q
        exact q.symm
      subst ev
      obtain ⟨T1, r1, r2, r3, r4⟩ := sp_337l (Q := Q) (n := S.1 1 1) (t := t) ⟨d1, d2⟩ (by omega) (S.1 1 1).toNat Q 0 (ev_pI (ev_pL S1 723 0 (ev_i2l t)) 621 0 0) (by omega) (by omega) (by omega) (by rw [f1 621 1 (by omega), s1 621 1 (by omega) (by omega) (by omega) (by omega), d3]) (by rw [f1 621 110 (by omega), s1 621 110 (by omega) (by omega) (by omega) (by omega), t3, et])
      have e2 : jm_337 Q (ev_pL S1 723 0 (ev_i2l t)) = some ((t : Int), ev_pI (ev_pI (ev_pI T1 701 (t : Int).toNat (S.1 1 1)) 621 1 0) 621 110 ((t : Int) + 1)) := by
        unfold jm_337
        rw [sp_b, sp_b, f1 621 110 (by omega), s1 621 110 (by omega) (by omega) (by omega) (by omega), t3, et, if_pos (by omega)]
        unfold jm_336
        rw [w3', sp_bd, if_pos (by decide), r1]
      generalize hS2 : ev_pI (ev_pI (ev_pI T1 701 (t : Int).toNat (S.1 1 1)) 621 1 0) 621 110 ((t : Int) + 1) = S2 at e2
      have u1 : ∀ k g, k ≠ 700 → ¬ (k = 701 ∧ g = t) → ¬ (k = 621 ∧ (g = 0 ∨ g = 1 ∨ g = 110)) → S2.1 k g = S1.1 k g := fun k g h1 h2 h3 => by
        rw [← hS2, sp_pI1, if_neg (by omega), sp_pI1, if_neg (by omega), sp_pI1, if_neg (by omega), r3 k g h1, f1 k g (by omega)]
      have u2 : S2.1 621 0 = 0 ∧ S2.1 621 1 = 0 ∧ S2.1 621 110 = (t : Int) + 1 ∧ S2.1 701 t = S.1 1 1 := by
        rw [← hS2]
        refine ⟨by rw [rd_nf (by omega), rd_nf (by omega), rd_nk (by omega), r3 621 0 (by omega), rd_eq], by rw [rd_nf (by omega), rd_eq], rd_eq, by rw [rd_nk (by omega), rd_nk (by omega), Int.toNat_natCast, rd_eq]⟩
      have u3 : ∀ g : Nat, S2.1 700 g = if 120 * (t : Int) ≤ (g : Int) ∧ (g : Int) < 120 * t + S.1 1 1 then S.1 2 ((g : Int) - 120 * t).toNat else S.1 700 g := fun g => by
        rw [← hS2, rd_nk (by omega), rd_nk (by omega), rd_nk (by omega), r2, f1 622 _ (by omega), s1 622 _ (by omega) (by omega) (by omega) (by omega), f1 700 _ (by omega), s1 700 _ (by omega) (by omega) (by omega) (by omega)]
        by_cases e : 120 * (t : Int) ≤ (g : Int) ∧ (g : Int) < 120 * t + S.1 1 1
        · rw [if_pos (by omega), if_pos e]
          exact (d4 _ (by omega)).1
        · rw [if_neg (by omega), if_neg e]
      have u4 : S2.2 = (ev_pL S1 723 0 (ev_i2l t)).2 := by rw [← hS2]; exact r4
      refine ⟨S2, fun K => la_4 (c := 0) (b := (t : Int)) hL hj (lw_4_ok c1) e2 u2.1 (fun _ => by rw [u4]; exact rd_L), ?_, ?_, ?_⟩
      · have e11 : S2.1 1 1 = 0 := by rw [u1 1 1 (by omega) (by omega) (by omega), s4]
        exact ⟨by omega, by omega, by rw [u2.2.1, e11], fun g hg => by omega⟩
      · have e07 : S2.1 0 7 = (t : Int) + 1 := by rw [u1 0 7 (by omega) (by omega) (by omega), s5]
        unfold sp_TR
        rw [e07]
        refine ⟨by omega, u2.2.2.1, fun i hi => ?_⟩
        by_cases ei : i = t
        · subst ei
          have en : S2.1 (553 + 2 * i) 1 = S.1 1 1 := by rw [u1 _ 1 (by omega) (by omega) (by omega), s2]
          have eg : ∀ g : Nat, (g : Int) < S.1 1 1 → S2.1 (553 + 2 * i + 1) g = S.1 2 g := fun g hg => by rw [u1 _ g (by omega) (by omega) (by omega), s3 g hg]
          rw [en, u2.2.2.2]
          refine ⟨rfl, ⟨d1, d2⟩, fun g hg => ?_, ?_⟩
          · rw [u3, if_pos (by omega), eg g hg, show (((120 * i + g : Nat) : Int) - 120 * (i : Int)).toNat = g from by omega]
            exact ⟨rfl, (d4 g hg).2⟩
          · have e : sp_at S2 (553 + 2 * i) = sp_at S 1 := funext fun p => by
              unfold sp_at
              rw [en]
              by_cases h : 0 ≤ p ∧ p < S.1 1 1
              · rw [if_pos h, if_pos h, eg _ (by omega)]
              · rw [if_neg h, if_neg h]
            rw [e]
            exact hv.2
        · obtain ⟨a1, a2, a3, a4⟩ := t4 i (by omega)
          have ek : ∀ k g, k = 553 + 2 * i ∨ k = 553 + 2 * i + 1 → S2.1 k g = S.1 k g := fun k g hk => by rw [u1 k g (by omega) (by omega) (by omega), s1 k g (by omega) (by omega) (by omega) (by omega)]
          have e : sp_at S2 (553 + 2 * i) = sp_at S (553 + 2 * i) := funext fun p => by
            unfold sp_at
            rw [ek _ 1 (Or.inl rfl), ek _ _ (Or.inr rfl)]
          rw [u1 701 i (by omega) (by omega) (by omega), s1 701 i (by omega) (by omega) (by omega) (by omega), ek _ 1 (Or.inl rfl), e]
          refine ⟨a1, a2, fun g hg => ?_, a4⟩
          rw [u3, if_neg (by omega), ek _ g (Or.inr rfl)]
          exact a3 g hg
      · refine ⟨fun b g w => ?_, fun b g hb => ?_, ?_, ?_, ?_, ?_, ?_⟩
        · unfold sp_Wt at w
          rw [u1 b g (by omega) (by omega) (by omega), s1 b g (by omega) (by omega) (by omega) (by omega)]
        · rw [u4, sp_pL2, if_neg (fun z => hb z.1), s6]
        · rw [u4, sp_pL3, s6]
        · rw [u4, sp_pL3, s6]
        · rw [u4, sp_pL3, s6]
        · rw [u4, sp_pL3, s6]
          omega
        · rw [u4, sp_pL3, s6]
          omega
    · have hv : v = 0 := by omega
      subst hv
      have f1 : ∀ k g, ¬ (k = 621 ∧ g = 0) → (ev_pI (ev_pL S 723 0 (ev_i2l (-1))) 621 0 0).1 k g = S.1 k g := fun k g h => if_neg h
      obtain ⟨v', _, w2', w3'⟩ := tl_loop (Q := Q) (S := S) (T := ev_pI (ev_pL S 723 0 (ev_i2l (-1))) 621 0 0) ⟨d1, d2⟩ (by rw [f1 621 1 (by omega), d3]) (fun g hg => by rw [f1 622 g (by omega)]; exact (d4 g hg).1) 129 Q Q 0 0 (by omega) (by omega) (by omega) (by omega) (by omega) (Or.inl rfl)
      have ev : v' = 0 := by
        rw [w2] at w2'
        injection w2' with q
        injection q with q
        exact q.symm
      subst ev
      refine ⟨ev_pI (ev_pL S 723 0 (ev_i2l (-1))) 621 0 0, fun K => la_4 (c := 0) (b := -1) hL hj (lw_4_ok (S1 := S) (v := -1) ?_) ?_ rd_eq (fun _ => rd_L), DR_c (fun k g h1 h2 => f1 k g (by omega)) (f1 621 1 (by omega)), TR_c (fun k g h1 h2 => f1 k g (by omega)) (f1 621 110 (by omega)), ?_⟩
      · unfold jm_170
        rw [sp_b, if_pos h8]
        unfold jm_48
        rw [w2, sp_bd, if_neg (by decide)]
      · unfold jm_337
        rw [sp_b, sp_b, f1 621 110 (by omega), t3, if_pos (by omega)]
        unfold jm_336
        rw [w3', sp_bd, if_neg (by decide)]
      · exact ⟨fun b g w => (sp_F_ok (v := -1) (c := 0)).1 b g (fun q => w (by unfold sp_Wt; unfold sp_Wc at q; omega)), (sp_F_ok (v := -1) (c := 0)).2⟩
  · have e8 : S.1 0 7 = 8 := by omega
    refine ⟨_, fun K => la_4 (S1 := ev_tick S) (c := 1) (b := 0) hL hj (lw_4_x0 ?_) ?_ rd_eq (fun q => by cases q), DR_c (U := ev_pI (ev_pI (ev_tick S) 621 0 0) 621 0 1) (fun k g h1 h2 => (if_neg (by omega)).trans (if_neg (by omega))) (by rw [rd_nf (by omega), rd_nf (by omega)]; rfl), TR_c (fun k g h1 h2 => (if_neg (by omega)).trans (if_neg (by omega))) (by rw [rd_nf (by omega), rd_nf (by omega)]; rfl), ?_⟩
    · unfold jm_170
      rw [sp_b, if_neg h8]
    · unfold jm_337
      rw [sp_b, sp_b, rd_nf (by omega), sp_tick1, t3, e8, if_neg (by decide)]
      rfl
    · exact ⟨fun b g w => (sp_F_no2 (c := 0) (d := 1)).1 b g (fun q => w (by unfold sp_Wt; unfold sp_Wc at q; omega)), (sp_F_no2 (c := 0) (d := 1)).2⟩
end OPSK2
