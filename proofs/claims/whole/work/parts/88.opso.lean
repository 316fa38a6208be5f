/-! KINDS of characters: d, w, s, D, W, S -/
def ch_w (c : Int) : Int := if (97 ≤ c ∧ c ≤ 122) ∨ (65 ≤ c ∧ c ≤ 90) ∨ (48 ≤ c ∧ c ≤ 57) ∨ c = 95 then 1 else 0
theorem ch_w_i (c : Int) : (ch_w c = 1 ↔ (97 ≤ c ∧ c ≤ 122) ∨ (65 ≤ c ∧ c ≤ 90) ∨ (48 ≤ c ∧ c ≤ 57) ∨ c = 95) ∧ (ch_w c = 0 ∨ ch_w c = 1) := by
  unfold ch_w
  split <;> omega
theorem sp_227 {Q : Nat} {c : Int} {S : ev_St} : jm_227 Q c S = some (ch_w c, S) := by
  have i2 := ch_d_i c
  have i3 := ch_a_i c
  have i4 := ch_w_i c
  unfold jm_227
  simp only [sp_225, sp_226, sp_bd]
  (repeat' split) <;> first | exact some_c (by omega) | (exfalso; omega)
theorem sp_210 {Q : Nat} {c : Int} {S : ev_St} : jm_210 Q c S = some (ch_w c, S) := by
  have i4 := ch_w_i c
  unfold jm_210
  simp only [sp_jn]
  (repeat' split) <;> first | exact some_c (by omega) | (exfalso; omega)
def isK (k : Int) : Prop := k = 100 ∨ k = 119 ∨ k = 115 ∨ k = 68 ∨ k = 87 ∨ k = 83
def kb (x c : Int) : Int := if x = 100 then ch_d c else if x = 119 then ch_w c else if c = 32 ∨ c = 10 then 1 else 0
def kw (k : Int) : Int := if k = 100 ∨ k = 68 then 100 else if k = 119 ∨ k = 87 then 119 else 115
/-- a character is of the kind k -/
def kp (k c : Int) : Bool := decide (kb (kw k) c = ch_l k)
def klw (k : Int) : Int64 := if k = 68 ∨ k = 87 then -287948905469967360 else if k = 100 ∨ k = 119 then 287948901175001088 else if k = 115 then 4294968320 else -8589934592
def khi (k : Int) : Int64 := if k = 87 then 8646911290859585537 else if k = 100 ∨ k = 115 then Int64.ofNat ((0 : Fin 2) : Nat) else if k = 119 then 576460745995190270 else 9223372036854775807
theorem sp_217 {Q : Nat} {k : Int} {S : ev_St} : jm_217 Q k S = some (klw k, S) := by
  unfold jm_217 klw
  (repeat' split) <;> rfl
theorem sp_218 {Q : Nat} {k : Int} {S : ev_St} : jm_218 Q k S = some (khi k, S) := by
  unfold jm_218 khi
  (repeat' split) <;> rfl
theorem sp_216 {Q : Nat} {k : Int} {S : ev_St} : jm_216 Q k S = some (if k = 100 ∨ k = 119 ∨ k = 115 ∨ k = 68 ∨ k = 87 ∨ k = 83 then 1 else 0, S) := by
  unfold jm_216
  (repeat' split) <;> first | rfl | (exfalso; omega)
theorem kp_C : ∀ k : Fin 6, ∀ c : Fin 127, sp_sign ((c.1 : Nat) : Int) = 1 → cb (klw ([100, 119, 115, 68, 87, 83].getD k.1 0)) (khi ([100, 119, 115, 68, 87, 83].getD k.1 0)) ((c.1 : Nat) : Int) = kp ([100, 119, 115, 68, 87, 83].getD k.1 0) ((c.1 : Nat) : Int) := by decide +kernel
theorem kv_C : ∀ k : Fin 6, ∀ i : Fin 64, (lb (klw ([100, 119, 115, 68, 87, 83].getD k.1 0)) i.1 = true → i.1 = 10 ∨ 32 ≤ i.1) ∧ (lb (khi ([100, 119, 115, 68, 87, 83].getD k.1 0)) i.1 = true → i.1 ≤ 62) := by decide +kernel
theorem isK_i {k : Int} (h : isK k) : ∃ j : Fin 6, k = [100, 119, 115, 68, 87, 83].getD j.1 0 := by
  rcases h with h | h | h | h | h | h
  · exact ⟨0, h⟩
  · exact ⟨1, h⟩
  · exact ⟨2, h⟩
  · exact ⟨3, h⟩
  · exact ⟨4, h⟩
  · exact ⟨5, h⟩
theorem cb_kind {k c : Int} (hk : isK k) (hc : sp_sign c = 1) : cb (klw k) (khi k) c = kp k c := by
  obtain ⟨j, e⟩ := isK_i hk
  have r := sp_sign_r hc
  have q := kp_C j ⟨c.toNat, by omega⟩
  dsimp only at q
  rw [show ((c.toNat : Nat) : Int) = c from by omega, ← e] at q
  exact q hc
theorem SV_kind {k : Int} (hk : isK k) : SV (klw k) (khi k) := by
  obtain ⟨j, e⟩ := isK_i hk
  refine ⟨fun i hi w => ?_, fun i hi w => ?_⟩
  · have q := (kv_C j ⟨i, hi⟩).1
    rw [← e] at q
    exact q w
  · have q := (kv_C j ⟨i, hi⟩).2
    rw [← e] at q
    exact q w
theorem ior32 : ∀ k : Fin 6, ev_ior ([100, 119, 115, 68, 87, 83].getD k.1 0) 32 = kw ([100, 119, 115, 68, 87, 83].getD k.1 0) := by decide +kernel
theorem sp_246l {Q : Nat} {k : Int} (hk : isK k) : ∀ (m q : Nat) (x : Int) (S : ev_St), 127 - x ≤ m → m < q → 0 ≤ x → ∃ S', jl_246_18 Q k q (kw k) x S = some ((), S') ∧ ((∀ c, sp_sign c = 1 → rb (S'.2.1 621 41) (S'.2.1 621 42) c = (rb (S.2.1 621 41) (S.2.1 621 42) c || (decide (x ≤ c) && kp k c))) ∧ (RVz (S.2.1 621 42) → RVz (S'.2.1 621 42))) ∧ S'.1 = S.1 ∧ (∀ a g, ¬ (a = 621 ∧ (g = 41 ∨ g = 42)) → S'.2.1 a g = S.2.1 a g) ∧ S'.2.2 = S.2.2
  | m, 0, x, S, _, h, _ => by omega
  | m, q + 1, x, S, h1, h2, h3 => by
    show ∃ S', jb_246_18 Q k (jl_246_18 Q k q) (kw k) x S = _ ∧ _
    by_cases h : 127 ≤ x
    · refine ⟨S, ?_, ⟨fun c hc => by rw [decide_eq_false (show ¬ x ≤ c by have := sp_sign_r hc; omega)]; simp, fun z => z⟩, rfl, fun _ _ _ => rfl, rfl⟩
      unfold jb_246_18
      rw [if_pos h]
    · cases m with
      | zero => omega
      | succ m =>
        have bod : jb_246_18 Q k (jl_246_18 Q k q) (kw k) x S = if sp_sign x = 0 then jl_246_18 Q k q (kw k) (x + 1) S else if kb (kw k) x ≠ ch_l k then jl_246_18 Q k q (kw k) (x + 1) S else jl_246_18 Q k q (kw k) (x + 1) (setL S (S.2.1 621 41 ||| rone x) (S.2.1 621 42 ||| rtwo x)) := by
          have t : ∀ v, (ev_bd (jm_223 Q x S) fun x21 s20 => ev_jn (fun (s27 : ev_St) => ev_ck (x + 1) fun x28 => (jl_246_18 Q k q) (kw k) x28 s27) fun K111 => if x21 = 0 then (K111 s20) else (ev_bd (jm_224 Q k s20) fun x31 s30 => if v ≠ x31 then (K111 s30) else (ev_b (s30.2.1 621 41) fun y33 => ev_bd (jm_242 Q x s30) fun y35 s34 => ev_b (y33 ||| y35) fun y36 => ev_b (ev_pL s34 621 41 y36) fun s37 => ev_b (s37.2.1 621 42) fun y38 => ev_bd (jm_243 Q x s37) fun y40 s39 => ev_b (y38 ||| y40) fun y41 => ev_b (ev_pL s39 621 42 y41) fun s42 => K111 s42))) = if sp_sign x = 0 then jl_246_18 Q k q (kw k) (x + 1) S else if v ≠ ch_l k then jl_246_18 Q k q (kw k) (x + 1) S else jl_246_18 Q k q (kw k) (x + 1) (setL S (S.2.1 621 41 ||| rone x) (S.2.1 621 42 ||| rtwo x)) := fun v => by
            rw [sp_223, sp_bd]
            simp only [sp_jn, sp_224, sp_bd, sp_ck (show -2147483648 ≤ x + 1 ∧ x + 1 ≤ 2147483647 by omega), sp_242 (show 0 ≤ x ∧ x ≤ 1000 by omega), sp_243 (show 0 ≤ x ∧ x ≤ 1000 by omega), sp_b]
            rfl
          unfold jb_246_18
          simp only [sp_jn]
          simp only [sp_jn] at t
          rw [if_neg h]
          unfold kb
          by_cases e1 : kw k = 100
          · rw [if_neg (fun z => z e1), sp_226, sp_bd, if_pos e1]
            exact t _
          · rw [if_pos e1, if_neg e1]
            by_cases e2 : kw k = 119
            · rw [if_neg (fun z => z e2), sp_227, sp_bd, if_pos e2]
              exact t _
            · rw [if_pos e2, if_neg e2]
              by_cases e3 : x = 32
              · rw [if_pos e3, if_pos (Or.inl e3)]
                exact t _
              · rw [if_neg e3]
                by_cases e4 : x = 10
                · rw [if_neg (fun z => z e4), if_pos (Or.inr e4)]
                  exact t _
                · rw [if_pos e4, if_neg (show ¬ (x = 32 ∨ x = 10) by omega)]
                  exact t _
        rw [bod]
        have dc : ∀ c, c ≠ x → decide (x + 1 ≤ c) = decide (x ≤ c) := fun c hc => decide_eq_decide.mpr (by omega)
        by_cases hs : sp_sign x = 0
        · obtain ⟨S', r1, r2, r3, r4, r5⟩ := sp_246l hk m q (x + 1) S (by omega) (by omega) (by omega)
          refine ⟨S', by rw [if_pos hs]; exact r1, ⟨fun c hc => ?_, r2.2⟩, r3, r4, r5⟩
          rw [r2.1 c hc, dc c (fun z => by rw [z, hs] at hc; cases hc)]
        · have hs1 := sp_sign1 hs
          by_cases hv : kb (kw k) x ≠ ch_l k
          · obtain ⟨S', r1, r2, r3, r4, r5⟩ := sp_246l hk m q (x + 1) S (by omega) (by omega) (by omega)
            refine ⟨S', by rw [if_neg hs, if_pos hv]; exact r1, ⟨fun c hc => ?_, r2.2⟩, r3, r4, r5⟩
            rw [r2.1 c hc]
            by_cases g : c = x
            · have : kp k c = false := by
                rw [g]
                exact decide_eq_false hv
              rw [this, Bool.and_false, Bool.and_false]
            · rw [dc c g]
          · have hv : kb (kw k) x = ch_l k := Decidable.not_not.mp hv
            obtain ⟨S', r1, r2, r3, r4, r5⟩ := sp_246l hk m q (x + 1) (setL S (S.2.1 621 41 ||| rone x) (S.2.1 621 42 ||| rtwo x)) (by omega) (by omega) (by omega)
            refine ⟨S', by rw [if_neg hs, if_neg (fun z => z hv)]; exact r1, ⟨fun c hc => ?_, fun z => r2.2 (RVz_or z (RVz_two hs1))⟩, r3, fun a g hk => ?_, r5⟩
            · have e1 : (setL S (S.2.1 621 41 ||| rone x) (S.2.1 621 42 ||| rtwo x)).2.1 621 41 = S.2.1 621 41 ||| rone x := by
                unfold setL
                rw [sp_pL2, if_neg (by omega)]
                exact rd_L
              have e2 : (setL S (S.2.1 621 41 ||| rone x) (S.2.1 621 42 ||| rtwo x)).2.1 621 42 = S.2.1 621 42 ||| rtwo x := rd_L
              rw [r2.1 c hc, e1, e2, rb_or, rb_one hs1 hc]
              by_cases g : c = x
              · have : kp k c = true := by
                  rw [g]
                  exact decide_eq_true hv
                rw [this, decide_eq_true g, decide_eq_true (show x ≤ c by omega)]
                simp
              · rw [dc c g, decide_eq_false g, Bool.or_false]
            · rw [r4 a g hk]
              unfold setL
              rw [sp_pL2, if_neg (by omega), sp_pL2, if_neg (by omega)]
theorem sp_246 {Q : Nat} {k : Int} {S : ev_St} (hQ : 200 ≤ Q) (hk : isK k) : ∃ S', jm_246 Q k S = some ((), S') ∧ ((∀ c, sp_sign c = 1 → rb (S'.2.1 621 41) (S'.2.1 621 42) c = kp k c) ∧ RVz (S'.2.1 621 42)) ∧ S'.1 = S.1 ∧ (∀ a g, ¬ (a = 621 ∧ (g = 41 ∨ g = 42)) → S'.2.1 a g = S.2.1 a g) ∧ S'.2.2 = S.2.2 := by
  obtain ⟨S', r1, r2, r3, r4, r5⟩ := sp_246l (Q := Q) hk 117 Q 10 (setL S (Int64.ofNat ((0 : Fin 2) : Nat)) (Int64.ofNat ((0 : Fin 2) : Nat))) (by omega) (by omega) (by omega)
  obtain ⟨j, e⟩ := isK_i hk
  have ei : ev_ior k 32 = kw k := by
    rw [e]
    exact ior32 j
  refine ⟨S', ?_, ⟨fun c hc => ?_, r2.2 RVz_0⟩, r3, fun a g hk => ?_, r5⟩
  · unfold jm_246
    rw [ei]
    exact r1
  · have e1 : (setL S (Int64.ofNat ((0 : Fin 2) : Nat)) (Int64.ofNat ((0 : Fin 2) : Nat))).2.1 621 41 = Int64.ofNat ((0 : Fin 2) : Nat) := by
      unfold setL
      rw [sp_pL2, if_neg (by omega)]
      exact rd_L
    have e2 : (setL S (Int64.ofNat ((0 : Fin 2) : Nat)) (Int64.ofNat ((0 : Fin 2) : Nat))).2.1 621 42 = Int64.ofNat ((0 : Fin 2) : Nat) := rd_L
    have e3 : rb (Int64.ofNat ((0 : Fin 2) : Nat)) (Int64.ofNat ((0 : Fin 2) : Nat)) c = false := by
      unfold rb
      rw [lb_0, lb_0]
      split <;> rfl
    have s := sign_or hc
    rw [r2.1 c hc, e1, e2, e3, Bool.false_or, decide_eq_true (show (10 : Int) ≤ c by omega), Bool.true_and]
  · rw [r4 a g hk]
    unfold setL
    rw [sp_pL2, if_neg (by omega), sp_pL2, if_neg (by omega)]
theorem sp_247 {Q : Nat} {k : Int} {S : ev_St} (hk : -1 ≤ k ∧ k < 127) : jm_247 Q k S = some (if k = 100 ∨ k = 119 ∨ k = 115 ∨ k = 68 ∨ k = 87 ∨ k = 83 then 1 else 0, S) := by
  have i3 := ch_a_i k
  have t : ∀ c : Fin 128, ((97 ≤ c.1 ∧ c.1 ≤ 122) ∨ (65 ≤ c.1 ∧ c.1 ≤ 90)) → ev_ior ((c.1 : Nat) : Int) 32 = if 97 ≤ c.1 then ((c.1 : Nat) : Int) else ((c.1 : Nat) : Int) + 32 := by decide +kernel
  unfold jm_247
  rw [sp_b, sp_225, sp_bd]
  by_cases h : ch_a k = 0
  · rw [if_pos h, if_neg (by omega)]
  · have q := t ⟨k.toNat, by omega⟩ (by dsimp only; omega)
    dsimp only at q
    rw [show ((k.toNat : Nat) : Int) = k from by omega] at q
    rw [if_neg h, q]
    (repeat' split) <;> first | rfl | (exfalso; omega)
