/-! characters; templates that are read -/
def ch_d (c : Int) : Int := if 48 ≤ c ∧ c ≤ 57 then 1 else 0
def ch_l (c : Int) : Int := if 97 ≤ c ∧ c ≤ 122 then 1 else 0
def ch_a (c : Int) : Int := if (97 ≤ c ∧ c ≤ 122) ∨ (65 ≤ c ∧ c ≤ 90) then 1 else 0
def ch_e (c : Int) : Int := if (33 ≤ c ∧ c ≤ 47) ∨ (58 ≤ c ∧ c ≤ 64) ∨ (91 ≤ c ∧ c ≤ 96) ∨ (123 ≤ c ∧ c ≤ 126) then 1 else 0
theorem sp_208 {Q : Nat} {c : Int} {S : ev_St} : jm_208 Q c S = some (ch_d c, S) := by
  unfold jm_208 ch_d
  (repeat' split) <;> first | rfl | (exfalso; omega)
theorem sp_209 {Q : Nat} {c : Int} {S : ev_St} : jm_209 Q c S = some (ch_l c, S) := by
  unfold jm_209 ch_l
  (repeat' split) <;> first | rfl | (exfalso; omega)
theorem sp_211 {Q : Nat} {c : Int} {S : ev_St} : jm_211 Q c S = some (ch_e c, S) := by
  unfold jm_211 ch_e
  simp only [sp_jn]
  (repeat' split) <;> first | rfl | (exfalso; omega)
theorem sp_224 {Q : Nat} {c : Int} {S : ev_St} : jm_224 Q c S = some (ch_l c, S) := by
  unfold jm_224
  rw [sp_222, sp_bd]
  unfold sp_in ch_l ev_bl
  (repeat' split) <;> first | rfl | (exfalso; omega) | exact sp_if (by decide)
theorem sp_226 {Q : Nat} {c : Int} {S : ev_St} : jm_226 Q c S = some (ch_d c, S) := by
  unfold jm_226
  rw [sp_222, sp_bd]
  unfold sp_in ch_d ev_bl
  (repeat' split) <;> first | rfl | (exfalso; omega) | exact sp_if (by decide)
theorem in_iff (v a b : Int) : (sp_in v a b = 1 ↔ a ≤ v ∧ v ≤ b) ∧ (sp_in v a b = 0 ∨ sp_in v a b = 1) := by
  unfold sp_in
  (repeat' split) <;> omega
theorem ch_d_i (c : Int) : (ch_d c = 1 ↔ 48 ≤ c ∧ c ≤ 57) ∧ (ch_d c = 0 ∨ ch_d c = 1) := by
  unfold ch_d
  split <;> omega
theorem ch_l_i (c : Int) : (ch_l c = 1 ↔ 97 ≤ c ∧ c ≤ 122) ∧ (ch_l c = 0 ∨ ch_l c = 1) := by
  unfold ch_l
  split <;> omega
theorem ch_a_i (c : Int) : (ch_a c = 1 ↔ (97 ≤ c ∧ c ≤ 122) ∨ (65 ≤ c ∧ c ≤ 90)) ∧ (ch_a c = 0 ∨ ch_a c = 1) := by
  unfold ch_a
  split <;> omega
theorem ch_e_i (c : Int) : (ch_e c = 1 ↔ (33 ≤ c ∧ c ≤ 47) ∨ (58 ≤ c ∧ c ≤ 64) ∨ (91 ≤ c ∧ c ≤ 96) ∨ (123 ≤ c ∧ c ≤ 126)) ∧ (ch_e c = 0 ∨ ch_e c = 1) := by
  unfold ch_e
  split <;> omega
theorem some_c {x y : Int} {S : ev_St} (h : x = y) : some (x, S) = some (y, S) := by rw [h]
theorem sp_225 {Q : Nat} {c : Int} {S : ev_St} : jm_225 Q c S = some (ch_a c, S) := by
  have i1 := in_iff c 65 90
  have i2 := ch_l_i c
  have i3 := ch_a_i c
  unfold jm_225
  simp only [sp_224, sp_bd, sp_222]
  (repeat' split) <;> first | exact some_c (by omega) | (exfalso; omega)
theorem sp_228 {Q : Nat} {c : Int} {S : ev_St} : jm_228 Q c S = some (ch_e c, S) := by
  have i1 := in_iff c 33 126
  have i2 := ch_d_i c
  have i3 := ch_a_i c
  have i4 := ch_e_i c
  unfold jm_228
  simp only [sp_225, sp_226, sp_bd, sp_222]
  (repeat' split) <;> first | exact some_c (by omega) | (exfalso; omega)
/-- how many signs of a template belong together -/
def tl_n (c d e f s : Int) : Int := if c = 92 then (if d = 85 ∨ d = 76 ∨ d = 69 ∨ d = 110 ∨ ch_e d = 1 then 2 else 0) else if c = 36 then (if ch_d d = 1 then 2 else if d = 123 ∧ ch_l e = 1 ∧ f = 125 then 4 else 0) else if c = 63 then (if s = 0 ∧ ch_d d = 1 ∧ e = 123 then 3 else 0) else 1
theorem ch_01 (c : Int) : (ch_d c = 0 ∨ ch_d c = 1) ∧ (ch_l c = 0 ∨ ch_l c = 1) ∧ (ch_e c = 0 ∨ ch_e c = 1) ∧ (ch_a c = 0 ∨ ch_a c = 1) := by
  unfold ch_d ch_l ch_e ch_a
  refine ⟨?_, ?_, ?_, ?_⟩ <;> (split <;> omega)
theorem sp_49 {Q k : Nat} {p s : Int} {S : ev_St} (hk : ev_isOb k 10 = true) (hc : S.1 k 1 ≤ 160) (hp : 0 ≤ p ∧ p ≤ 160) : jm_49 Q (k + 1) p s S = some (tl_n (sp_at S k p) (sp_at S k (p + 1)) (sp_at S k (p + 2)) (sp_at S k (p + 3)) s, S) := by
  have a := fun x => sp_151 (Q := Q) (p := x) hk hc
  have z := ch_01 (sp_at S k (p + 1))
  have z2 := ch_01 (sp_at S k (p + 2))
  unfold jm_49 tl_n
  rw [sp_if (by omega), show k + 1 - 1 = k from rfl, a, sp_bd, sp_ck (by omega), sp_if (by omega), a, sp_bd]
  simp only [sp_jn, sp_208, sp_209, sp_211, sp_bd, sp_ck (show -2147483648 ≤ p + 2 ∧ p + 2 ≤ 2147483647 by omega), sp_ck (show -2147483648 ≤ p + 3 ∧ p + 3 ≤ 2147483647 by omega), sp_if (show k + 1 ≠ 0 by omega), show k + 1 - 1 = k from rfl, a]
  (repeat' split) <;> first | rfl | (exfalso; omega) | (exfalso; simp_all; done)
/-- the reference's draft at a place -/
def rd_at (T : ev_St) (p : Int) : Int := if p < T.1 621 1 then T.1 622 p.toNat else -1
def tl_is (is st c d e f : Int) : Int := if is = 0 then 0 else if c = 36 then (if ch_d d = 1 ∨ (d = 123 ∧ ch_l e = 1 ∧ f = 125) then 1 else 0) else if c = 92 then (if d = 85 ∨ d = 76 ∨ d = 69 ∨ d = 110 ∨ ch_e d = 1 then 1 else 0) else if c = 63 then (if st = 0 ∧ ch_d d = 1 ∧ e = 123 then 1 else 0) else if 0 < st ∧ c = 124 then (if st = 1 then 1 else 0) else 1
def tl_st (st c : Int) : Int := if c = 63 then 1 else if 0 < st ∧ c = 125 then 0 else if 0 < st ∧ c = 124 then 2 else st
def tl_k (c d : Int) : Int := if c = 36 then (if ch_d d = 1 then 2 else 4) else if c = 92 then 2 else if c = 63 then 3 else 1
theorem K3_c {β : Type} {K : Int → Int → Int → ev_St → Option β} {a b c a' b' c' : Int} {S : ev_St} (h1 : a = a') (h2 : b = b') (h3 : c = c') : K a b c S = K a' b' c' S := by rw [h1, h2, h3]
theorem sp_336b {Q : Nat} {K : Int → Int → Int → ev_St → Option (Int × ev_St)} {is st k : Int} {T : ev_St} (hn : 0 ≤ T.1 621 1 ∧ T.1 621 1 ≤ 120) (hk : 0 ≤ k ∧ k ≤ 200) (hs : st = 0 ∨ st = 1 ∨ st = 2) (hi : is = 0 ∨ is = 1) : jb_336_6 Q K is st k T = if T.1 621 1 ≤ k then some (if is = 0 ∨ st ≠ 0 then 0 else 1, T) else K (tl_is is st (rd_at T k) (rd_at T (k + 1)) (rd_at T (k + 2)) (rd_at T (k + 3))) (tl_st st (rd_at T k)) (k + tl_k (rd_at T k) (rd_at T (k + 1))) T := by
  have l622 := sp_aln622
  unfold jb_336_6
  rw [sp_b]
  by_cases h : T.1 621 1 ≤ k
  · rw [if_pos h, if_pos h]
    (repeat' split) <;> first | rfl | (exfalso; omega) | (simp_all; done)
  · rw [if_neg h, if_neg h, sp_if (by rw [l622]; omega), sp_b, sp_ck (by omega), sp_b]
    have ea : T.1 622 k.toNat = rd_at T k := (if_pos (by omega)).symm
    rw [ea]
    have e1 : ∀ (t : Int → Int → ev_St → Option (Int × ev_St)), (ev_jn t fun K44 => if T.1 621 1 ≤ k + 1 then K44 (rd_at T k) (-1) T else ev_ck (k + 1) fun x169 => ev_if ((0 : Int) ≤ x169 ∧ x169 < (ev_aln 622 : Int)) (ev_b (T.1 622 (Int.toNat x169)) fun x170 => K44 (rd_at T k) x170 T)) = t (rd_at T k) (rd_at T (k + 1)) T := fun t => by
      unfold rd_at
      rw [sp_jn]
      split
      · rw [if_neg (show ¬ k + 1 < T.1 621 1 by omega)]
      · rw [sp_ck (by omega), sp_if (by rw [l622]; omega), sp_b, if_pos (show k + 1 < T.1 621 1 by omega)]
    have e2 : ∀ (a : Int) (t : Int → Int → ev_St → Option (Int × ev_St)), (ev_jn t fun K44 => if T.1 621 1 ≤ k + 2 then K44 a (-1) T else ev_ck (k + 2) fun x169 => ev_if ((0 : Int) ≤ x169 ∧ x169 < (ev_aln 622 : Int)) (ev_b (T.1 622 (Int.toNat x169)) fun x170 => K44 a x170 T)) = t a (rd_at T (k + 2)) T := fun a t => by
      unfold rd_at
      rw [sp_jn]
      split
      · rw [if_neg (show ¬ k + 2 < T.1 621 1 by omega)]
      · rw [sp_ck (by omega), sp_if (by rw [l622]; omega), sp_b, if_pos (show k + 2 < T.1 621 1 by omega)]
    have e3 : ∀ (a : Int) (t : Int → Int → ev_St → Option (Int × ev_St)), (ev_jn t fun K44 => if T.1 621 1 ≤ k + 3 then K44 a (-1) T else ev_ck (k + 3) fun x169 => ev_if ((0 : Int) ≤ x169 ∧ x169 < (ev_aln 622 : Int)) (ev_b (T.1 622 (Int.toNat x169)) fun x170 => K44 a x170 T)) = t a (rd_at T (k + 3)) T := fun a t => by
      unfold rd_at
      rw [sp_jn]
      split
      · rw [if_neg (show ¬ k + 3 < T.1 621 1 by omega)]
      · rw [sp_ck (by omega), sp_if (by rw [l622]; omega), sp_b, if_pos (show k + 3 < T.1 621 1 by omega)]
    rw [e1, sp_ck (by omega), sp_b, e2, sp_ck (by omega), sp_b, e3, sp_ck (by omega)]
    generalize rd_at T k = c
    generalize rd_at T (k + 1) = d
    generalize rd_at T (k + 2) = e
    generalize rd_at T (k + 3) = f
    have i1 := ch_d_i d
    have i2 := ch_l_i e
    have i3 := ch_e_i d
    simp only [sp_jn, sp_226, sp_224, sp_228, sp_bd, sp_ck (show -2147483648 ≤ k + 1 + 1 ∧ k + 1 + 1 ≤ 2147483647 by omega), sp_ck (show -2147483648 ≤ k + 1 + 2 ∧ k + 1 + 2 ≤ 2147483647 by omega), sp_ck (show -2147483648 ≤ k + 1 + 3 ∧ k + 1 + 3 ≤ 2147483647 by omega)]
    unfold tl_is tl_st tl_k
    generalize ch_d d = d1 at i1 ⊢
    generalize ch_l e = e1' at i2 ⊢
    generalize ch_e d = d2 at i3 ⊢
    by_cases c36 : c = 36
    · subst c36
      simp only [if_true, if_false, ne_eq, not_true, not_false_iff, show ¬ ((36 : Int) = 63) by decide, show ¬ ((36 : Int) = 125) by decide, show ¬ ((36 : Int) = 124) by decide, and_false]
      (repeat' split) <;> first | exact K3_c (by first | rfl | omega) (by first | rfl | omega) (by omega) | (exfalso; omega)
    · by_cases c92 : c = 92
      · subst c92
        simp only [if_true, if_false, ne_eq, not_true, not_false_iff, show ¬ ((92 : Int) = 63) by decide, show ¬ ((92 : Int) = 36) by decide, show ¬ ((92 : Int) = 125) by decide, show ¬ ((92 : Int) = 124) by decide, and_false]
        (repeat' split) <;> first | exact K3_c (by first | rfl | omega) (by first | rfl | omega) (by omega) | (exfalso; omega)
      · by_cases c63 : c = 63
        · subst c63
          simp only [if_true, if_false, ne_eq, not_true, not_false_iff, show ¬ ((63 : Int) = 36) by decide, show ¬ ((63 : Int) = 92) by decide]
          (repeat' split) <;> first | exact K3_c (by first | rfl | omega) (by first | rfl | omega) (by omega) | (exfalso; omega)
        · simp only [if_neg c36, if_neg c92, if_neg c63, if_pos c36, if_pos c92, if_pos c63, ne_eq, c36, c92, c63, not_false_iff, if_true]
          (repeat' split) <;> first | exact K3_c (by first | rfl | omega) (by first | rfl | omega) (by omega) | (exfalso; omega)
