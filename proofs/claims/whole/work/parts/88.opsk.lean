/-! TEMPLATES: the call -/
theorem K2_c {β : Type} {K : Int → Int → ev_St → Option β} {a b a' b' : Int} {S : ev_St} (h1 : a = a') (h2 : b = b') : K a b S = K a' b' S := by rw [h1, h2]
theorem sp_is1 : ev_isOb 1 10 = true := by decide +kernel
theorem sp_48b {Q : Nat} {K : Int → Int → ev_St → Option (Int × ev_St)} {st k : Int} {S : ev_St} (hn : 0 ≤ S.1 1 1 ∧ S.1 1 1 ≤ 120) (hk : 0 ≤ k ∧ k ≤ 150) (hs : st = 0 ∨ st = 1 ∨ st = 2) : jb_48_6 Q (1 + 1) K st k S = if S.1 1 1 ≤ k then some (if st ≠ 0 then 0 else 1, S) else if tl_n (sp_at S 1 k) (sp_at S 1 (k + 1)) (sp_at S 1 (k + 2)) (sp_at S 1 (k + 3)) (if st ≤ 0 then 0 else 1) < 1 ∨ (sp_at S 1 k = 124 ∧ st = 2) then some (0, S) else K (if sp_at S 1 k = 63 then 1 else if st = 0 ∨ sp_at S 1 k = 125 then 0 else if sp_at S 1 k = 124 then 2 else st) (k + tl_n (sp_at S 1 k) (sp_at S 1 (k + 1)) (sp_at S 1 (k + 2)) (sp_at S 1 (k + 3)) (if st ≤ 0 then 0 else 1)) S := by
  have h49 := fun s => sp_49 (Q := Q) (k := 1) (p := k) (s := s) (S := S) sp_is1 (by omega) (by omega)
  have hb : ∀ s, 0 ≤ tl_n (sp_at S 1 k) (sp_at S 1 (k + 1)) (sp_at S 1 (k + 2)) (sp_at S 1 (k + 3)) s ∧ tl_n (sp_at S 1 k) (sp_at S 1 (k + 1)) (sp_at S 1 (k + 2)) (sp_at S 1 (k + 3)) s ≤ 4 := fun s => by
    unfold tl_n
    (repeat' split) <;> omega
  unfold jb_48_6
  rw [sp_if (by omega), show 1 + 1 - 1 = 1 from rfl, sp_b]
  by_cases h : S.1 1 1 ≤ k
  · rw [if_pos h, if_pos h]
    split <;> rfl
  · rw [if_neg h, if_neg h]
    have e : (ev_jn (fun (x14 : Int) (x13 : Int) (r12 : Nat) (s19 : ev_St) => ev_bd (jm_49 Q r12 x13 x14 s19) fun x21 s20 => ev_if ((1 + 1 : Nat) ≠ 0) (ev_bd (jm_151 Q 1 k s20) fun x24 s23 => if x21 < 1 then (some ((0 : Int), s23)) else (ev_jn (fun (s32 : ev_St) => ev_jn (fun (x33 : Int) (s38 : ev_St) => ev_ck (k + x21) fun x39 => K x33 x39 s38) fun K93 => if x24 ≠ 63 then (ev_jn (fun (s45 : ev_St) => K93 0 s45) fun K77 => if st = 0 then (K77 s32) else (if x24 ≠ 125 then (if x24 ≠ 124 then (K93 st s32) else (K93 2 s32)) else (K77 s32))) else (K93 1 s32)) fun K55 => if x24 ≠ 124 then (K55 s23) else (if st ≠ 2 then (K55 s23) else (some (0, s23)))))) fun K25 => if st ≤ 0 then (K25 0 k (1 + 1) S) else (K25 1 k (1 + 1) S)) = (ev_bd (jm_49 Q (1 + 1) k (if st ≤ 0 then 0 else 1) S) fun x21 s20 => ev_if ((1 + 1 : Nat) ≠ 0) (ev_bd (jm_151 Q 1 k s20) fun x24 s23 => if x21 < 1 then (some ((0 : Int), s23)) else (ev_jn (fun (s32 : ev_St) => ev_jn (fun (x33 : Int) (s38 : ev_St) => ev_ck (k + x21) fun x39 => K x33 x39 s38) fun K93 => if x24 ≠ 63 then (ev_jn (fun (s45 : ev_St) => K93 0 s45) fun K77 => if st = 0 then (K77 s32) else (if x24 ≠ 125 then (if x24 ≠ 124 then (K93 st s32) else (K93 2 s32)) else (K77 s32))) else (K93 1 s32)) fun K55 => if x24 ≠ 124 then (K55 s23) else (if st ≠ 2 then (K55 s23) else (some (0, s23)))))) := by
      rw [sp_jn]
      split <;> rfl
    rw [e, h49, sp_bd, sp_if (by decide), sp_151 sp_is1 (by omega), sp_bd]
    have hb := hb (if st ≤ 0 then 0 else 1)
    generalize tl_n (sp_at S 1 k) (sp_at S 1 (k + 1)) (sp_at S 1 (k + 2)) (sp_at S 1 (k + 3)) (if st ≤ 0 then 0 else 1) = N at hb ⊢
    generalize sp_at S 1 k = c
    simp only [sp_jn, sp_ck (show -2147483648 ≤ k + N ∧ k + N ≤ 2147483647 by omega)]
    (repeat' split) <;> first | rfl | exact K2_c (by omega) rfl | (exfalso; omega)
section OPSK
variable {Q : Nat} {S T : ev_St}
theorem tl_dead (hn : 0 ≤ T.1 621 1 ∧ T.1 621 1 ≤ 120) : ∀ (m q : Nat) (k st : Int), T.1 621 1 - k ≤ m → m < q → 0 ≤ k → k ≤ T.1 621 1 + 4 → st = 0 ∨ st = 1 ∨ st = 2 → jl_336_6 Q q 0 st k T = some (0, T)
  | m, 0, k, st, _, h, _, _, _ => by omega
  | m, q + 1, k, st, h1, h2, h3, h4, h5 => by
    show jb_336_6 Q (jl_336_6 Q q) 0 st k T = _
    rw [sp_336b hn (by omega) h5 (Or.inl rfl)]
    by_cases h : T.1 621 1 ≤ k
    · rw [if_pos h, if_pos (Or.inl rfl)]
    · cases m with
      | zero => omega
      | succ m =>
        have e1 : ∀ c, tl_st st c = 0 ∨ tl_st st c = 1 ∨ tl_st st c = 2 := fun c => by
          unfold tl_st
          (repeat' split) <;> omega
        have e2 : ∀ c d, 1 ≤ tl_k c d ∧ tl_k c d ≤ 4 := fun c d => by
          unfold tl_k
          (repeat' split) <;> omega
        have e3 := e2 (rd_at T k) (rd_at T (k + 1))
        rw [if_neg h, show tl_is 0 st (rd_at T k) (rd_at T (k + 1)) (rd_at T (k + 2)) (rd_at T (k + 3)) = 0 from if_pos rfl]
        exact tl_dead hn m q _ _ (by omega) (by omega) (by omega) (by omega) (e1 _)
theorem tl_loop (hn : 0 ≤ S.1 1 1 ∧ S.1 1 1 ≤ 120) (hT : T.1 621 1 = S.1 1 1) (hd : ∀ g : Nat, (g : Int) < S.1 1 1 → T.1 622 g = S.1 2 g) : ∀ (m q q' : Nat) (k st : Int), S.1 1 1 - k ≤ m → m < q → m < q' → 0 ≤ k → k ≤ S.1 1 1 + 4 → st = 0 ∨ st = 1 ∨ st = 2 → ∃ v, (v = 0 ∨ v = 1) ∧ jl_48_6 Q (1 + 1) q st k S = some (v, S) ∧ jl_336_6 Q q' 1 st k T = some (v, T)
  | m, 0, q', k, st, _, h, _, _, _, _ => by omega
  | m, q + 1, 0, k, st, _, _, h, _, _, _ => by omega
  | m, q + 1, q' + 1, k, st, h1, h2, h2', h3, h4, h5 => by
    show ∃ v, (v = 0 ∨ v = 1) ∧ jb_48_6 Q (1 + 1) (jl_48_6 Q (1 + 1) q) st k S = some (v, S) ∧ jb_336_6 Q (jl_336_6 Q q') 1 st k T = some (v, T)
    rw [sp_336b (by omega) (by omega) h5 (Or.inr rfl), sp_48b hn (by omega) h5, hT]
    by_cases h : S.1 1 1 ≤ k
    · rw [if_pos h, if_pos h]
      by_cases h0 : st = 0
      · exact ⟨1, Or.inr rfl, by rw [if_neg (fun z => z h0)], by rw [if_neg (by omega)]⟩
      · exact ⟨0, Or.inl rfl, by rw [if_pos h0], by rw [if_pos (by omega)]⟩
    · rw [if_neg h, if_neg h]
      cases m with
      | zero => omega
      | succ m =>
        have ea : ∀ p : Int, 0 ≤ p → rd_at T p = sp_at S 1 p := fun p hp => by
          unfold rd_at sp_at
          rw [hT]
          by_cases e : p < S.1 1 1
          · rw [if_pos e, if_pos ⟨hp, e⟩, hd _ (by omega)]
          · rw [if_neg e, if_neg (by omega)]
        rw [ea k (by omega), ea (k + 1) (by omega), ea (k + 2) (by omega), ea (k + 3) (by omega)]
        generalize sp_at S 1 k = c
        generalize sp_at S 1 (k + 1) = d
        generalize sp_at S 1 (k + 2) = e
        generalize sp_at S 1 (k + 3) = f
        have i1 := ch_d_i d
        have i2 := ch_l_i e
        have i3 := ch_e_i d
        have e1 : ∀ c, tl_st st c = 0 ∨ tl_st st c = 1 ∨ tl_st st c = 2 := fun c => by
          unfold tl_st
          (repeat' split) <;> omega
        have e2 : ∀ c d, 1 ≤ tl_k c d ∧ tl_k c d ≤ 4 := fun c d => by
          unfold tl_k
          (repeat' split) <;> omega
        have e3 := e2 c d
        have key : (tl_is 1 st c d e f = 0 ∧ (tl_n c d e f (if st ≤ 0 then 0 else 1) < 1 ∨ (c = 124 ∧ st = 2))) ∨ (tl_is 1 st c d e f = 1 ∧ ¬ (tl_n c d e f (if st ≤ 0 then 0 else 1) < 1 ∨ (c = 124 ∧ st = 2)) ∧ tl_n c d e f (if st ≤ 0 then 0 else 1) = tl_k c d ∧ (if c = 63 then 1 else if st = 0 ∨ c = 125 then 0 else if c = 124 then 2 else st) = tl_st st c) := by
          unfold tl_is tl_n tl_k tl_st
          generalize ch_d d = d1 at i1 ⊢
          generalize ch_l e = e1 at i2 ⊢
          generalize ch_e d = d2 at i3 ⊢
          rw [if_neg (show ¬ ((1 : Int) = 0) by decide)]
          by_cases c36 : c = 36
          · subst c36
            simp only [if_true, if_false, show ¬ ((36 : Int) = 92) by decide, show ¬ ((36 : Int) = 63) by decide, show ¬ ((36 : Int) = 125) by decide, show ¬ ((36 : Int) = 124) by decide, and_false, false_and, or_false]
            (repeat' split) <;> omega
          · by_cases c92 : c = 92
            · subst c92
              simp only [if_true, if_false, show ¬ ((92 : Int) = 36) by decide, show ¬ ((92 : Int) = 63) by decide, show ¬ ((92 : Int) = 125) by decide, show ¬ ((92 : Int) = 124) by decide, and_false, false_and, or_false]
              (repeat' split) <;> omega
            · by_cases c63 : c = 63
              · subst c63
                simp only [if_true, if_false, show ¬ ((63 : Int) = 36) by decide, show ¬ ((63 : Int) = 92) by decide, show ¬ ((63 : Int) = 125) by decide, show ¬ ((63 : Int) = 124) by decide, and_false, false_and, or_false]
                (repeat' split) <;> omega
              · simp only [if_neg c36, if_neg c92, if_neg c63]
                (repeat' split) <;> omega
        rcases key with ⟨k1, k2⟩ | ⟨k1, k2, k3, k4⟩
        · rw [if_pos k2, k1]
          exact ⟨0, Or.inl rfl, rfl, tl_dead (by omega) m q' _ _ (by omega) (by omega) (by omega) (by omega) (e1 _)⟩
        · rw [if_neg k2, k1, k3, k4]
          exact tl_loop hn hT hd m q q' _ _ (by omega) (by omega) (by omega) (by omega) (by omega) (e1 _)
end OPSK
