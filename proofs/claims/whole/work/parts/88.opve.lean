/-! THE READER: any token; the spot moves on -/
section RALL
variable {Q k n m w d N M D lv t : Nat} {φ ψ own inn G R ws y : Nat → Nat} {P q : Nat → Int} {S T S0 T0 S1 S' S2 T2 T1 T3 U : ev_St}
theorem tk_all (hQ : 400 ≤ Q) (hk : ev_isOb k 5 = true) (hkr : 232 ≤ k) (h : RIa k lv ws S T) (hc : sp_at S (ws lv) (T.1 645 lv) ≠ -1) (hni : ¬ (sp_at S (ws lv) (T.1 645 lv) = 40 ∧ sp_at S (ws lv) (T.1 645 lv + 1) = 63 ∧ sp_at S (ws lv) (T.1 645 lv + 2) = 38)) : TK0 k lv ws (nx (sp_at S (ws lv)) (T.1 645 lv)) S T (jm_85 Q S) (jm_263 Q T) := by
  obtain ⟨N, M, D, φ, ψ, own, inn, G, R, P, q, y, H⟩ := h
  have H : RIy k lv ws N M D φ ψ own inn G R y P q S T := H
  obtain ⟨p, hp⟩ : ∃ p, T.1 645 lv = p := ⟨_, rfl⟩
  obtain ⟨c, hcc⟩ : ∃ c, sp_at S (ws lv) p = c := ⟨_, rfl⟩
  rw [hp] at hc hni
  rw [hcc] at hc hni
  by_cases e1 : c = 46
  · exact tk_46 hk hkr H (by rw [hp, hcc, e1])
  by_cases e2 : c = 94 ∨ c = 36
  · exact tk_edge hk hkr H (by rw [hp, hcc]; exact e2)
  by_cases e3 : c = 91
  · exact tk_class (by omega) hk hkr H (by rw [hp, hcc, e3])
  by_cases e4 : c = 92
  · exact tk_slash (by omega) hk hkr H (by rw [hp, hcc, e4])
  by_cases e5 : c = 42
  · rw [hp]
    exact tk_star (c := 42) (lo := 0) (hi := -1) hk hkr H hp (by rw [hcc, e5]) (by omega)
  by_cases e6 : c = 43
  · rw [hp]
    exact tk_star (c := 43) (lo := 1) (hi := -1) hk hkr H hp (by rw [hcc, e6]) (by omega)
  by_cases e7 : c = 63
  · rw [hp]
    exact tk_star (c := 63) (lo := 0) (hi := 1) hk hkr H hp (by rw [hcc, e7]) (by omega)
  by_cases e8 : c = 123
  · rw [hp]
    exact tk_bound (by omega) hk hkr H hp (by rw [hcc, e8])
  by_cases e9 : c = 124
  · rw [hp]
    exact tk_bar hk hkr H hp (by rw [hcc, e9])
  by_cases e10 : c = 41
  · rw [hp]
    exact tk_close hk hkr H hp (by rw [hcc, e10])
  by_cases e11 : c = 40
  · rw [hp, show nx (sp_at S (ws lv)) p = nxb (sp_at S (ws lv)) p from if_pos (by rw [hcc, e11])]
    have hc40 : sp_at S (ws lv) p = 40 := by rw [hcc, e11]
    unfold nxb
    by_cases f1 : sp_at S (ws lv) (p + 1) = 42
    · rw [if_pos f1]
      exact tk_verb hk hkr H hp hc40 f1
    rw [if_neg f1]
    by_cases f2 : sp_at S (ws lv) (p + 1) = 63
    · rw [if_neg (fun z => z f2)]
      obtain ⟨b, hb⟩ : ∃ b, sp_at S (ws lv) (p + 2) = b := ⟨_, rfl⟩
      have hb38 : b ≠ 38 := fun z => hni ⟨e11, f2, by rw [hb, z]⟩
      rw [hb]
      by_cases g1 : b = 60
      · rw [if_pos g1]
        obtain ⟨d, hd⟩ : ∃ d, sp_at S (ws lv) (p + 3) = d := ⟨_, rfl⟩
        rw [hd]
        by_cases i1 : d = 61
        · rw [if_pos (Or.inl i1)]
          exact tk_look (d := d) (x := 22) (f := 0) hk hkr H hp hc40 f2 (by rw [hb, g1]) hd (by omega)
        by_cases i2 : d = 33
        · rw [if_pos (Or.inr i2)]
          exact tk_look (d := d) (x := 23) (f := 1) hk hkr H hp hc40 f2 (by rw [hb, g1]) hd (by omega)
        · rw [if_neg (by omega)]
          exact tk_name hk hkr H hp hc40 f2 (by rw [hb, g1]) hd ⟨i1, i2⟩
      rw [if_neg g1]
      by_cases g2 : b = 58
      · rw [if_pos (by omega)]
        exact tk_par1 (c := 9) (x := 17) (f := 0) hk hkr H hp hc40 f2 hb (by omega)
      by_cases g3 : b = 62
      · rw [if_pos (by omega)]
        exact tk_par1 (c := 10) (x := 19) (f := 0) hk hkr H hp hc40 f2 hb (by omega)
      by_cases g4 : b = 61
      · rw [if_pos (by omega)]
        exact tk_par1 (c := 11) (x := 20) (f := 0) hk hkr H hp hc40 f2 hb (by omega)
      by_cases g5 : b = 33
      · rw [if_pos (by omega)]
        exact tk_par1 (c := 11) (x := 21) (f := 1) hk hkr H hp hc40 f2 hb (by omega)
      rw [if_neg (by omega)]
      by_cases g6 : b = 40
      · rw [if_pos (by omega)]
        exact tk_cond hk hkr H hp hc40 f2 (by rw [hb, g6])
      rw [if_neg (by omega)]
      by_cases g7 : 48 ≤ b ∧ b ≤ 57
      · rw [if_pos (by rw [(ch_d_i b).1.mpr g7]; decide)]
        exact tk_call hk hkr H hp hc40 f2 hb g7
      · have cd : ch_d b = 0 := (ch_d_i b).2.resolve_right (fun z => g7 ((ch_d_i b).1.mp z))
        rw [if_neg (fun z => z cd)]
        exact tk_sw hQ hkr H hp hc40 f2 hb (by omega) g7
    · rw [if_pos f2]
      exact tk_grp0 hk hkr H hp hc40 f2 f1
  · exact tk_self (c := c) (by omega) hk hkr H (by rw [hp, hcc]) hc (by omega)
/-- the spot moves on -/
theorem cxp_gt {c : Int → Int} {p : Int} : p ≤ cxp c p := by
  unfold cxp cxr sgl
  (repeat' split) <;> omega
theorem clF_ge {c : Int → Int} : ∀ (n : Nat) (p k : Int), p ≤ clF c n p k := fun n => by
  induction n with
  | zero => exact fun p k => Int.le_refl _
  | succ n ih =>
    intro p k
    unfold clF
    split
    · exact Int.le_refl _
    · have := ih (cxp c p) (cxk c p k)
      have := @cxp_gt c p
      omega
theorem swl_0 {c : Int → Int} : ∀ (n : Nat) (p : Int), 0 ≤ swl c n p := fun n => by
  induction n with
  | zero => exact fun p => Int.le_refl _
  | succ n ih =>
    intro p
    unfold swl
    split
    · have := ih (p + 1)
      omega
    · exact Int.le_refl _
theorem nx_gt {c : Int → Int} {p : Int} : p < nx c p := by
  unfold nx
  split
  · unfold nxb swE
    have a := @swl_0 c 160 (p + 2)
    have b := @swl_0 c 160 (p + 2 + swl c 160 (p + 2) + 1)
    (repeat' split) <;> omega
  · split
    · have := @clF_ge c 130 (if c (p + 1) = 94 then p + 2 else p + 1) 0
      have e : p + 1 ≤ (if c (p + 1) = 94 then p + 2 else p + 1) := by split <;> omega
      omega
    · split
      · split <;> omega
      · split
        · unfold rsl
          split <;> omega
        · split
          · have i1 := nb_i (c (p + 1)) (c (p + 2))
            have i2 := nb_i (c (p + 2 + nbl (c (p + 1)) (c (p + 2)))) (c (p + 3 + nbl (c (p + 1)) (c (p + 2))))
            unfold bnd rsl
            (repeat' split) <;> omega
          · omega
theorem nxi_gt {c : Int → Int} : ∀ (n : Nat), nxi c n < nxi c (n + 1) := fun n => nx_gt
theorem nxi_mono {c : Int → Int} : ∀ (n m : Nat), n ≤ m → nxi c n ≤ nxi c m := fun n m h => by
  induction m with
  | zero => 
    have : n = 0 := by omega
    rw [this]
    exact Int.le_refl _
  | succ m ih =>
    by_cases e : n = m + 1
    · rw [e]
      exact Int.le_refl _
    · have := ih (by omega)
      have := @nxi_gt c m
      omega
end RALL
