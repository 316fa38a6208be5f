/-! RANGES of characters, and kinds -/
def cl1 (x : Int) : Int64 := if 64 ≤ x then Int64.ofNat ((0 : Fin 2) : Nat) else ev_lshl (Int64.ofNat ((1 : Fin 2) : Nat)) x
def ch1 (x : Int) : Int64 := if 64 ≤ x then ev_lshl (Int64.ofNat ((1 : Fin 2) : Nat)) (x - 64) else Int64.ofNat ((0 : Fin 2) : Nat)
theorem cb_one {x c : Int} (hx : sp_sign x = 1) (hc : sp_sign c = 1) : cb (cl1 x) (ch1 x) c = decide (c = x) := by
  have q := sp_sign_r hx
  have r := sp_sign_r hc
  unfold cb cl1 ch1
  by_cases e : c < 64
  · rw [if_pos e]
    split
    · rw [lb_0, decide_eq_false (show ¬ c = x by omega)]
    · rw [lb_one (by omega) (by omega)]
      by_cases h : c = x
      · rw [decide_eq_true h, decide_eq_true (by omega)]
      · rw [decide_eq_false h, decide_eq_false (by omega)]
  · rw [if_neg e]
    split
    · rw [lb_one (by omega) (by omega)]
      by_cases h : c = x
      · rw [decide_eq_true h, decide_eq_true (by omega)]
      · rw [decide_eq_false h, decide_eq_false (by omega)]
    · rw [lb_0, decide_eq_false (show ¬ c = x by omega)]
theorem sign_or {x : Int} (hx : sp_sign x = 1) : x = 10 ∨ (32 ≤ x ∧ x ≤ 126) := by
  unfold sp_sign at hx
  split at hx
  · assumption
  · omega
theorem SV_one {x : Int} (hx : sp_sign x = 1) : SV (cl1 x) (ch1 x) := by
  have q := sign_or hx
  unfold cl1 ch1
  refine ⟨fun i hi e => ?_, fun i hi e => ?_⟩
  · split at e
    · rw [lb_0] at e
      cases e
    · rw [lb_one (by omega) hi] at e
      have e := of_decide_eq_true e
      omega
  · split at e
    · rw [lb_one (by omega) hi] at e
      have e := of_decide_eq_true e
      omega
    · rw [lb_0] at e
      cases e
theorem rb_one {x c : Int} (hx : sp_sign x = 1) (hc : sp_sign c = 1) : rb (rone x) (rtwo x) c = decide (c = x) := by
  have q := sign_ix hx
  have r := sign_ix hc
  have inj : rix c = rix x ↔ c = x := by
    have a := sign_or hx
    have b := sign_or hc
    unfold rix
    (repeat' split) <;> omega
  unfold rb
  by_cases e : rix c < 64
  · rw [if_pos e, lb_rone hx (by omega)]
    by_cases h : c = x
    · rw [decide_eq_true h, decide_eq_true (by have := inj.mpr h; omega)]
    · rw [decide_eq_false h, decide_eq_false (fun z => h (inj.mp (by omega)))]
  · rw [if_neg e, lb_rtwo hx (by omega)]
    by_cases h : c = x
    · rw [decide_eq_true h, decide_eq_true (by have := inj.mpr h; omega)]
    · rw [decide_eq_false h, decide_eq_false (fun z => h (inj.mp (by omega)))]
theorem rb_or {a b a' b' : Int64} {c : Int} : rb (a ||| a') (b ||| b') c = (rb a b c || rb a' b' c) := by
  unfold rb
  rw [lb_or, lb_or]
  split <;> rfl
theorem cb_or {a b a' b' : Int64} {c : Int} : cb (a ||| a') (b ||| b') c = (cb a b c || cb a' b' c) := by
  unfold cb
  rw [lb_or, lb_or]
  split <;> rfl
theorem lb_z (i : Nat) : lb 0 i = false := lb_0 i
theorem or_0 (x : Int64) : x ||| (Int64.ofNat ((0 : Fin 2) : Nat)) = x := by
  apply lb_ext
  intro i hi
  rw [lb_or, lb_0, Bool.or_false]
theorem RVz_two {x : Int} (hx : sp_sign x = 1) : RVz (rtwo x) := fun i hi e => by
  have q := sign_ix hx
  rw [lb_rtwo hx hi] at e
  have e := of_decide_eq_true e
  omega
theorem RVz_0 : RVz (Int64.ofNat ((0 : Fin 2) : Nat)) := fun i _ e => absurd e (by rw [lb_0]; decide)
/-- the class's loop upon a range -/
theorem sp_26l {Q : Nat} {e : Int} {S : ev_St} (he : e ≤ 126) : ∀ (m q : Nat) (yl yh : Int64) (x : Int), e + 1 - x ≤ m → m < q → 0 ≤ x → ∃ l h, jl_26_79 Q e q yl yh x S = (ev_bd (jm_22 Q l (if S.1 6 10 = 0 then h else fh h) S) fun x33 s32 => ev_if (ev_bl x33) (some (x33, s32))) ∧ (∀ c, sp_sign c = 1 → cb l h c = (cb yl yh c || decide (x ≤ c ∧ c ≤ e))) ∧ (SV yl yh → SV l h)
  | m, 0, yl, yh, x, _, h, _ => by omega
  | m, q + 1, yl, yh, x, h1, h2, h3 => by
    show ∃ l h, jb_26_79 Q e (jl_26_79 Q e q) yl yh x S = _ ∧ _
    by_cases h : e < x
    · refine ⟨yl, yh, ?_, fun c hc => by rw [decide_eq_false (show ¬ (x ≤ c ∧ c ≤ e) by omega), Bool.or_false], fun z => z⟩
      unfold jb_26_79
      simp only [sp_jn]
      rw [if_pos h, sp_b]
      split
      · rfl
      · rw [sp_215, sp_bd]
    · cases m with
      | zero => omega
      | succ m =>
        by_cases hs : sp_sign x = 0
        · obtain ⟨l, hh, r1, r2, r3⟩ := sp_26l (Q := Q) (S := S) he m q yl yh (x + 1) (by omega) (by omega) (by omega)
          refine ⟨l, hh, ?_, fun c hc => ?_, r3⟩
          · unfold jb_26_79
            simp only [sp_jn]
            rw [if_neg h, if_neg (by omega), sp_207, sp_bd, if_pos hs, sp_ck (by omega)]
            exact r1
          · rw [r2 c hc]
            have hne : c ≠ x := fun z => by rw [z, hs] at hc; cases hc
            by_cases g : x ≤ c ∧ c ≤ e
            · rw [decide_eq_true g, decide_eq_true (by omega)]
            · rw [decide_eq_false g, decide_eq_false (by omega)]
        · have hs1 := sp_sign1 hs
          obtain ⟨l, hh, r1, r2, r3⟩ := sp_26l (Q := Q) (S := S) he m q (yl ||| cl1 x) (yh ||| ch1 x) (x + 1) (by omega) (by omega) (by omega)
          refine ⟨l, hh, ?_, fun c hc => ?_, fun z => r3 (SV_or z (SV_one hs1))⟩
          · unfold jb_26_79
            simp only [sp_jn]
            rw [if_neg h, if_neg (by omega), sp_207, sp_bd, if_neg hs]
            unfold cl1 ch1 at r1
            by_cases g : 64 ≤ x
            · rw [if_pos g, if_pos g] at r1
              rw [if_pos g, sp_b, if_pos g, sp_ck (by omega), sp_b, sp_b, sp_ck (by omega)]
              exact r1
            · rw [if_neg g, if_neg g] at r1
              rw [if_neg g, sp_b, sp_b, if_neg g, sp_b, sp_ck (by omega)]
              exact r1
          · rw [r2 c hc, cb_or, cb_one hs1 hc]
            by_cases g1 : c = x
            · rw [decide_eq_true g1, decide_eq_true (show x ≤ c ∧ c ≤ e by omega)]
              simp
            · rw [decide_eq_false g1, Bool.or_false]
              by_cases g : x ≤ c ∧ c ≤ e
              · rw [decide_eq_true g, decide_eq_true (by omega)]
              · rw [decide_eq_false g, decide_eq_false (by omega)]
/-- what a longs' write in the reference's set does -/
def setL (S : ev_St) (a b : Int64) : ev_St := ev_pL (ev_pL S 621 41 a) 621 42 b
theorem oth_oth (c : Int) : oth (oth c) = c := by
  unfold oth
  (repeat' split) <;> omega
theorem oth_eq {x c : Int} : c = oth x ↔ oth c = x := by
  constructor
  · intro h
    rw [h, oth_oth]
  · intro h
    rw [← h, oth_oth]
/-- the reference's loop upon a range -/
theorem sp_245l {Q : Nat} {e bo : Int} (he : e ≤ 126) : ∀ (m q : Nat) (x : Int) (S : ev_St), e + 1 - x ≤ m → m < q → 0 ≤ x → ∃ S', jl_245_13 Q e bo q x S = some ((), S') ∧ ((∀ c, sp_sign c = 1 → rb (S'.2.1 621 41) (S'.2.1 621 42) c = (rb (S.2.1 621 41) (S.2.1 621 42) c || decide (x ≤ c ∧ c ≤ e) || (decide (bo ≠ 0) && decide (x ≤ oth c ∧ oth c ≤ e)))) ∧ (RVz (S.2.1 621 42) → RVz (S'.2.1 621 42))) ∧ S'.1 = S.1 ∧ (∀ k g, ¬ (k = 621 ∧ (g = 41 ∨ g = 42)) → S'.2.1 k g = S.2.1 k g) ∧ S'.2.2 = S.2.2
  | m, 0, x, S, _, h, _ => by omega
  | m, q + 1, x, S, h1, h2, h3 => by
    show ∃ S', jb_245_13 Q e bo (jl_245_13 Q e bo q) x S = _ ∧ _
    by_cases h : e < x
    · refine ⟨S, ?_, ⟨fun c hc => by rw [decide_eq_false (show ¬ (x ≤ c ∧ c ≤ e) by omega), decide_eq_false (show ¬ (x ≤ oth c ∧ oth c ≤ e) by omega)]; simp, fun z => z⟩, rfl, fun _ _ _ => rfl, rfl⟩
      unfold jb_245_13
      rw [if_pos h]
    · cases m with
      | zero => omega
      | succ m =>
        by_cases hs : sp_sign x = 0
        · obtain ⟨S', r1, r2, r3, r4, r5⟩ := sp_245l (Q := Q) (bo := bo) he m q (x + 1) S (by omega) (by omega) (by omega)
          refine ⟨S', ?_, ⟨fun c hc => ?_, r2.2⟩, r3, r4, r5⟩
          · unfold jb_245_13
            simp only [sp_jn]
            rw [if_neg h, sp_223, sp_bd, if_pos hs, sp_ck (by omega)]
            exact r1
          · rw [r2.1 c hc]
            have hne : c ≠ x := fun z => by rw [z, hs] at hc; cases hc
            have hne2 : oth c ≠ x := fun z => by
              have w := oth_sign hc
              rw [z, hs] at w
              cases w
            have d1 : decide (x + 1 ≤ c ∧ c ≤ e) = decide (x ≤ c ∧ c ≤ e) := by
              by_cases g : x ≤ c ∧ c ≤ e
              · rw [decide_eq_true g, decide_eq_true (by omega)]
              · rw [decide_eq_false g, decide_eq_false (by omega)]
            have d2 : decide (x + 1 ≤ oth c ∧ oth c ≤ e) = decide (x ≤ oth c ∧ oth c ≤ e) := by
              by_cases g : x ≤ oth c ∧ oth c ≤ e
              · rw [decide_eq_true g, decide_eq_true (by omega)]
              · rw [decide_eq_false g, decide_eq_false (by omega)]
            rw [d1, d2]
        · have hs1 := sp_sign1 hs
          have hx := sp_sign_r hs1
          have ho := sp_sign_r (oth_sign hs1)
          have key : ∃ a b : Int64, jb_245_13 Q e bo (jl_245_13 Q e bo q) x S = jl_245_13 Q e bo q (x + 1) (setL S (S.2.1 621 41 ||| a) (S.2.1 621 42 ||| b)) ∧ (∀ c, sp_sign c = 1 → rb a b c = (decide (c = x) || (decide (bo ≠ 0) && decide (oth c = x)))) ∧ RVz b := by
            by_cases hb : bo = 0
            · refine ⟨rone x, rtwo x, ?_, fun c hc => by rw [rb_one hs1 hc, decide_eq_false (show ¬ bo ≠ 0 by omega)]; simp, RVz_two hs1⟩
              unfold jb_245_13
              simp only [sp_jn]
              rw [if_neg h, sp_223, sp_bd, if_neg hs, sp_b, sp_242 (by omega), sp_bd, if_pos hb, sp_b, or_0, sp_b, sp_b, sp_b, sp_243 (by omega), sp_bd, if_pos hb, sp_b, or_0, sp_b, sp_b, sp_ck (by omega)]
              rfl
            · refine ⟨rone x ||| rone (oth x), rtwo x ||| rtwo (oth x), ?_, fun c hc => ?_, RVz_or (RVz_two hs1) (RVz_two (oth_sign hs1))⟩
              · unfold jb_245_13
                simp only [sp_jn]
                rw [if_neg h, sp_223, sp_bd, if_neg hs, sp_b, sp_242 (by omega), sp_bd, if_neg hb, sp_229, sp_bd, sp_242 (by omega), sp_bd, sp_b, sp_b, sp_b, sp_b, sp_243 (by omega), sp_bd, if_neg hb, sp_229, sp_bd, sp_243 (by omega), sp_bd, sp_b, sp_b, sp_b, sp_ck (by omega)]
                rfl
              · rw [rb_or, rb_one hs1 hc, rb_one (oth_sign hs1) hc, decide_eq_true (show bo ≠ 0 from hb), Bool.true_and]
                congr 1
                exact decide_eq_decide.mpr oth_eq
          obtain ⟨a, b, k1, k2, k3⟩ := key
          obtain ⟨S', r1, r2, r3, r4, r5⟩ := sp_245l (Q := Q) (bo := bo) he m q (x + 1) (setL S (S.2.1 621 41 ||| a) (S.2.1 621 42 ||| b)) (by omega) (by omega) (by omega)
          refine ⟨S', k1.trans r1, ⟨fun c hc => ?_, fun z => r2.2 (RVz_or z k3)⟩, r3, fun k g hk => ?_, r5⟩
          · have e1 : (setL S (S.2.1 621 41 ||| a) (S.2.1 621 42 ||| b)).2.1 621 41 = S.2.1 621 41 ||| a := by
              unfold setL
              rw [sp_pL2, if_neg (by omega)]
              exact rd_L
            have e2 : (setL S (S.2.1 621 41 ||| a) (S.2.1 621 42 ||| b)).2.1 621 42 = S.2.1 621 42 ||| b := rd_L
            rw [r2.1 c hc, e1, e2, rb_or, k2 c hc]
            have d1 : decide (x ≤ c ∧ c ≤ e) = (decide (c = x) || decide (x + 1 ≤ c ∧ c ≤ e)) := by
              by_cases g : c = x
              · rw [decide_eq_true g, decide_eq_true (by omega)]
                rfl
              · rw [decide_eq_false g, Bool.false_or]
                exact decide_eq_decide.mpr (by omega)
            have d2 : decide (x ≤ oth c ∧ oth c ≤ e) = (decide (oth c = x) || decide (x + 1 ≤ oth c ∧ oth c ≤ e)) := by
              by_cases g : oth c = x
              · rw [decide_eq_true g, decide_eq_true (by omega)]
                rfl
              · rw [decide_eq_false g, Bool.false_or]
                exact decide_eq_decide.mpr (by omega)
            rw [d1, d2]
            cases rb (S.2.1 621 41) (S.2.1 621 42) c <;> cases decide (c = x) <;> cases decide (x + 1 ≤ c ∧ c ≤ e) <;> cases decide (bo ≠ 0) <;> cases decide (oth c = x) <;> cases decide (x + 1 ≤ oth c ∧ oth c ≤ e) <;> rfl
          · rw [r4 k g hk]
            unfold setL
            rw [sp_pL2, if_neg (by omega), sp_pL2, if_neg (by omega)]
theorem sp_245 {Q : Nat} {x e bo : Int} {S : ev_St} (hQ : 200 ≤ Q) (he : e ≤ 126) (hx : 0 ≤ x) : ∃ S', jm_245 Q x e bo S = some ((), S') ∧ ((∀ c, sp_sign c = 1 → rb (S'.2.1 621 41) (S'.2.1 621 42) c = (decide (x ≤ c ∧ c ≤ e) || (decide (bo ≠ 0) && decide (x ≤ oth c ∧ oth c ≤ e)))) ∧ RVz (S'.2.1 621 42)) ∧ S'.1 = S.1 ∧ (∀ k g, ¬ (k = 621 ∧ (g = 41 ∨ g = 42)) → S'.2.1 k g = S.2.1 k g) ∧ S'.2.2 = S.2.2 := by
  obtain ⟨S', r1, r2, r3, r4, r5⟩ := sp_245l (Q := Q) (e := e) (bo := bo) he (e + 1 - x).toNat Q x (setL S (Int64.ofNat ((0 : Fin 2) : Nat)) (Int64.ofNat ((0 : Fin 2) : Nat))) (by omega) (by omega) hx
  refine ⟨S', r1, ⟨fun c hc => ?_, r2.2 RVz_0⟩, r3, fun k g hk => ?_, r5⟩
  · have e1 : (setL S (Int64.ofNat ((0 : Fin 2) : Nat)) (Int64.ofNat ((0 : Fin 2) : Nat))).2.1 621 41 = Int64.ofNat ((0 : Fin 2) : Nat) := by
      unfold setL
      rw [sp_pL2, if_neg (by omega)]
      exact rd_L
    have e2 : (setL S (Int64.ofNat ((0 : Fin 2) : Nat)) (Int64.ofNat ((0 : Fin 2) : Nat))).2.1 621 42 = Int64.ofNat ((0 : Fin 2) : Nat) := rd_L
    have e3 : rb (Int64.ofNat ((0 : Fin 2) : Nat)) (Int64.ofNat ((0 : Fin 2) : Nat)) c = false := by
      unfold rb
      rw [lb_0, lb_0]
      split <;> rfl
    rw [r2.1 c hc, e1, e2, e3, Bool.false_or]
  · rw [r4 k g hk]
    unfold setL
    rw [sp_pL2, if_neg (by omega), sp_pL2, if_neg (by omega)]
