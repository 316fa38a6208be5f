/-! FACTS: the class's loop over its nodes; numbers are the reference's -/
section FACTC8
variable {Q k b e N M m t o : Nat} {φ ψ own up : Nat → Nat} {W : Nat → FV} {S T U V : ev_St}
/-- the class's learning, behind the nodes -/
def aft29 (Q : Nat) (s12 : ev_St) : Option (Unit × ev_St) := ev_b (s12.2.2.1 221 9) fun r13 => ev_if (r13 ≠ 0) (ev_bd (jm_60 Q ((r13 - 1)) s12) fun x16 s15 => ev_b (s15.2.2.1 221 9) fun r17 => ev_if (r17 ≠ 0) (ev_bd (jm_59 Q ((r17 - 1)) x16 s15) fun x20 s19 => if x20 ≠ 0 then (ev_b (s19.2.2.1 221 9) fun r22 => ev_if ((0 : Int) ≤ x16 ∧ x16 < (ev_aln 222 : Int)) (ev_b (s19.1 222 (Int.toNat x16)) fun x23 => ev_if (r22 ≠ 0) (ev_b (ev_pI s19 ((r22 - 1)) 16 x23) fun s25 => ev_b (s25.2.2.1 221 9) fun r26 => ev_ck (2 * x16) fun x27 => ev_if ((0 : Int) ≤ x27 ∧ x27 < (ev_aln 224 : Int)) (ev_b (s25.2.1 224 (Int.toNat x27)) fun y28 => ev_if (r26 ≠ 0) (ev_b (ev_pL s25 ((r26 - 1)) 17 y28) fun s30 => ev_b (s30.2.2.1 221 9) fun r31 => ev_ck (2 * x16) fun x32 => ev_ck (x32 + 1) fun x33 => ev_if ((0 : Int) ≤ x33 ∧ x33 < (ev_aln 224 : Int)) (ev_b (s30.2.1 224 (Int.toNat x33)) fun y34 => ev_if (r31 ≠ 0) (ev_b (ev_pL s30 ((r31 - 1)) 18 y34) fun s36 => ev_b (s36.2.2.1 221 9) fun r37 => ev_ck (2 * x16) fun x38 => ev_if ((0 : Int) ≤ x38 ∧ x38 < (ev_aln 227 : Int)) (ev_b (s36.2.1 227 (Int.toNat x38)) fun y39 => ev_ck (2 * x16) fun x40 => ev_ck (x40 + 1) fun x41 => ev_if ((0 : Int) ≤ x41 ∧ x41 < (ev_aln 227 : Int)) (ev_b (s36.2.1 227 (Int.toNat x41)) fun y42 => ev_bd (jm_30 Q y39 y42 s36) fun x44 s43 => ev_if (r37 ≠ 0) (ev_b (ev_pI s43 ((r37 - 1)) 19 x44) fun s46 => ev_bd (jm_40 Q  s46) fun _ s47 => ev_b (s47.2.2.1 221 9) fun r48 => ev_if ((0 : Int) ≤ x16 ∧ x16 < (ev_aln 223 : Int)) (ev_b (s47.1 223 (Int.toNat x16)) fun x49 => ev_jn (fun (x51 : Int) (r50 : Nat) (s54 : ev_St) => ev_if (r50 ≠ 0) (ev_if (ev_bl x51) (ev_b (ev_pI s54 ((r50 - 1)) 14 x51) fun s56 => ev_b (s56.2.2.1 221 9) fun r58 => ev_b (s56.2.2.1 221 9) fun r59 => ev_if (r59 ≠ 0) (ev_b (s56.1 ((r59 - 1)) 14) fun x61 => ev_jn (fun (x63 : Int) (r62 : Nat) (s66 : ev_St) => ev_if (r62 ≠ 0) (ev_if (ev_bl x63) (ev_b (ev_pI s66 ((r62 - 1)) 15 x63) fun s68 => ev_b (s68.2.2.1 221 9) fun r70 => ev_if (r70 ≠ 0) (ev_b (s68.1 ((r70 - 1)) 14) fun x72 => if x72 = 0 then (some ((), s68)) else (ev_b (s68.2.2.1 221 9) fun r74 => ev_if (r74 ≠ 0) (ev_b (s68.2.2.1 221 9) fun r76 => ev_bd (jm_71 Q (((r74 - 1) + 12)) r76 ((228 + 1)) ((229 + 1)) s68) fun _ s77 => some ((), s77))))))) fun K190 => ev_jn (fun (r78 : Nat) (s81 : ev_St) => K190 0 r78 s81) fun K189 => if x61 = 0 then (K189 r58 s56) else (ev_bd (jm_39 Q  s56) fun x84 s83 => if x84 ≠ 0 then (K189 r58 s83) else (K190 1 r58 s83)))))) fun K161 => ev_jn (fun (r86 : Nat) (s89 : ev_St) => K161 0 r86 s89) fun K160 => if 200 < x49 then (K160 r48 s47) else (ev_bd (jm_38 Q  s47) fun x92 s91 => if x92 = 0 then (K160 r48 s91) else (K161 1 r48 s91))))))))))))) else (some ((), s19))))
theorem run29 (hF : FINX k N M φ ψ own up S T) (hk : ev_isOb k 5 = true) (hkr : 232 ≤ k) (hQ : 400 ≤ Q) (hr : S.2.2.1 221 9 = k + 1) : ∀ (r q i : Nat) (U : ev_St), r < q → i + r = M → FRL S U → WQ k N M φ ψ S T (val U) i → ∃ V, jl_29_7 Q q (i : Int) U = aft29 Q V ∧ FRL S V ∧ WQ k N M φ ψ S T (val V) M
  | r, 0, i, U, h, _, _, _ => by omega
  | 0, q + 1, i, U, _, hi, hU, hw => by
    have kM : U.1 k 11 = (M : Int) := by rw [hU.1 _ _ (by omega) (by omega)]; exact hF.2.1.1
    have hrU : U.2.2.1 221 9 = k + 1 := by rw [hU.2.2]; exact hr
    obtain rfl : i = M := by omega
    refine ⟨U, ?_, hU, hw⟩
    show jb_29_7 Q _ _ U = _
    unfold jb_29_7
    rw [sp_b, hrU, sp_if (by omega), show k + 1 - 1 = k from rfl, sp_b, kM, sp_jn, if_pos (Int.le_refl _)]
    rfl
  | r + 1, q + 1, i, U, hq, hi, hU, hw => by
    have kM : U.1 k 11 = (M : Int) := by rw [hU.1 _ _ (by omega) (by omega)]; exact hF.2.1.1
    have hrU : U.2.2.1 221 9 = k + 1 := by rw [hU.2.2]; exact hr
    have hM : M ≤ 400 := hF.2.1.2.1
    obtain ⟨V1, a1, a2, a3⟩ := learn_b (Q := Q) (b := i) hF hk hkr hQ (by omega) hU hr hw
    obtain ⟨V, c1, c2, c3⟩ := run29 hF hk hkr hQ hr r q (i + 1) V1 (by omega) (by omega) (FRL_n hU a2) a3
    refine ⟨V, ?_, c2, c3⟩
    rw [← c1]
    show jb_29_7 Q _ _ U = _
    unfold jb_29_7
    rw [sp_b, hrU, sp_if (by omega), show k + 1 - 1 = k from rfl, sp_b, kM, sp_jn, if_neg (by omega), if_neg (by omega), a1, sp_bd, sp_ck (by omega), show (i : Int) + 1 = ((i + 1 : Nat) : Int) from by omega]
theorem UP_lt0 (hF : FINX k N M φ ψ own up S T) : ∀ n t, t ≤ n → t < N → t ≠ 0 → up t < t := fun n => by
  have hl := hF.1.2.1.1
  have hv := hF.1.2.2.2.1.2
  induction n with
  | zero => intro t h1 _ h3; omega
  | succ n ih =>
    intro t h1 h2 h3
    rcases hl.2.2.2 t h3 h2 with z | ⟨s, z1, z2, z3⟩
    · exact ((hv _ (hl.1 t h2)).1 t (Or.inl z)).1
    · have q := ((hv s z1).1 t (Or.inr z2)).1
      by_cases e : s = 0
      · subst e
        have := hF.1.1.2.2.2.2.2.1
        have z2' : T.1 627 3840 = (t : Int) := z2
        omega
      · have := ih s (by omega) z1 e
        omega
theorem UP_lt (hF : FINX k N M φ ψ own up S T) (h1 : t < N) (h0 : t ≠ 0) (e : up t = m) : m < t := by
  rw [← e]
  exact UP_lt0 hF t t (Nat.le_refl _) h1 h0
theorem WQ_0 : WQ k N M φ ψ S T W 0 := ⟨fun e h => absurd h (Nat.not_lt_zero e), fun m _ => ⟨fun h => absurd h (Nat.not_lt_zero _), fun h => absurd h (Nat.not_lt_zero _), fun _ _ _ _ _ => ⟨fun h => absurd h (Nat.not_lt_zero _), fun h => absurd h (Nat.not_lt_zero _), fun h => absurd h (Nat.not_lt_zero _)⟩⟩⟩
theorem mlC_1 {a x : Int} (ha : 0 ≤ a) (hx : 0 ≤ x) : mlC (mlC a + x) = mlC (a + x) := by
  have := mlC_i a
  have := mlC_i (a + x)
  have := mlC_i (mlC a + x)
  omega
theorem mlC_2 {x : Int} (h : fcv x) : mlC x = x := by
  have := mlC_i x
  have := h.2
  omega
theorem mlC_3 {x lo : Int} (hx : 0 ≤ x) (hl : 0 ≤ lo) : mlC (mlC x * (lo + 1) + 2) = mlC (x * (lo + 1) + 2) := by
  rcases mlC_i x with ⟨_, z⟩ | ⟨z, z2⟩
  · rw [z]
  · rw [z2]
    have a1 : 1000000 * 1 ≤ 1000000 * (lo + 1) := Int.mul_le_mul_of_nonneg_left (by omega) (by omega)
    have a2 : x * 1 ≤ x * (lo + 1) := Int.mul_le_mul_of_nonneg_left (by omega) (by omega)
    have := mlC_i (1000000 * (lo + 1) + 2)
    have := mlC_i (x * (lo + 1) + 2)
    omega
theorem mlC_4 {x hi : Int} (hx : 0 ≤ x) (hh : 0 ≤ hi) : mlC ((mlC x + 1) * hi) = mlC ((x + 1) * hi) := by
  rcases mlC_i x with ⟨_, z⟩ | ⟨z, z2⟩
  · rw [z]
  · rw [z2]
    by_cases h0 : hi = 0
    · rw [h0, Int.mul_zero, Int.mul_zero]
    · have a1 : (1000000 + 1) * 1 ≤ (1000000 + 1) * hi := Int.mul_le_mul_of_nonneg_left (by omega) (by omega)
      have a2 : (x + 1) * 1 ≤ (x + 1) * hi := Int.mul_le_mul_of_nonneg_left (by omega) (by omega)
      have := mlC_i ((1000000 + 1) * hi)
      have := mlC_i ((x + 1) * hi)
      omega
/-- the numbers of a node are alike -/
def LBq (o : Nat) (φ ψ : Nat → Nat) (T : ev_St) (W : Nat → FV) (m : Nat) : Prop := ((W (φ m)).1 = T.1 640 (o + m) ∧ (W (φ m)).2.1 = T.1 642 (o + m)) ∧ (W (ψ m)).1 = T.1 641 (o + m) ∧ (W (ψ m)).2.1 = T.1 643 (o + m)
theorem LB_all {p : Nat} (hF : FINX k N M φ ψ own up S (sft p T)) (hw : WQ k N M φ ψ S (sft p T) W M) (hq : ∀ m, m < N → FQ (320 * p) T m) : ∀ n m, m < N → N ≤ m + n → LBq (320 * p) φ ψ T W m := fun n => by
  have h := TREE_of hF
  have hB := TB_of hF
  induction n with
  | zero => intro m h1 h2; omega
  | succ n ih =>
    intro m hm hn
    have ih' : ∀ t, m < t → t < N → LBq (320 * p) φ ψ T W t := fun t a b => ih t b (by omega)
    obtain ⟨q1, q2, q3, q4, q5⟩ := hq m hm
    obtain ⟨b1, b2, b3, b4⟩ := fcG_b hB hm (fun t a c => (hq t c).2.2.2.2)
    obtain ⟨kr, kk⟩ := FINX_K hF hm
    have ki := kcl_i (c := tK (sft p T) m) (f := (sft p T).1 629 (3840 + m)) kr
    have eK : tK (sft p T) m = T.1 625 (320 * p + m) := sft_1 (by omega) (by omega)
    have eC : tC (sft p T) m = T.1 626 (320 * p + m) := sft_1 (by omega) (by omega)
    have eX : tX (sft p T) = fun t => T.1 627 (320 * p + t) := funext fun t => sft_1 (by omega) (by omega)
    have eR : tR (sft p T) m = T.1 630 (320 * p + m) := sft_1 (by omega) (by omega)
    have eL : tL (sft p T) m = T.1 631 (320 * p + m) := sft_1 (by omega) (by omega)
    have eH : tH (sft p T) m = T.1 632 (320 * p + m) := sft_1 (by omega) (by omega)
    obtain ⟨a1, a2, a3, a4, a5, a6⟩ := (hw.2 m hm).1 (h.1 m hm).1
    have lkX := Kid_X h (m := m)
    have lkC := Kid_C h hm
    rw [eX] at lkX
    rw [eC] at lkC
    -- the children's numbers
    have kid : ∀ t, Kid N up (sft p T) m t → m < t ∧ t < N := fun t ht => by
      refine ⟨?_, ht.1⟩
      exact (UP_lt hF ht.1 ht.2.1 ht.2.2.1)
    have atom : (W (φ m)).1 = T.1 640 (320 * p + m) ∧ (W (φ m)).2.1 = T.1 642 (320 * p + m) := by
      rw [eK] at a1 a2 a3 a4 a5 a6 kr
      rw [q1, q2]
      by_cases z8 : 8 ≤ T.1 625 (320 * p + m) ∧ T.1 625 (320 * p + m) ≤ 13
      · have kc : (S.1 (k + 1) (φ m) = 18 ↔ T.1 625 (320 * p + m) = 8) ∧ (S.1 (k + 1) (φ m) = 8 ↔ T.1 625 (320 * p + m) = 13) ∧ (20 ≤ S.1 (k + 1) (φ m) ↔ T.1 625 (320 * p + m) = 11 ∨ T.1 625 (320 * p + m) = 12) := by
          rcases kk with ⟨_, y, z⟩ | ⟨_, z⟩
          · rw [eK] at y
            omega
          · rw [z, eK]
            have hc : T.1 625 (320 * p + m) = 8 ∨ T.1 625 (320 * p + m) = 9 ∨ T.1 625 (320 * p + m) = 10 ∨ T.1 625 (320 * p + m) = 11 ∨ T.1 625 (320 * p + m) = 12 ∨ T.1 625 (320 * p + m) = 13 := by omega
            generalize (sft p T).1 629 (3840 + m) = f
            rcases hc with y | y | y | y | y | y <;> rw [y] <;> by_cases w : f = 0 <;> simp [kcl, w]
        have rel := chl_mem lkX (fun (a : Int × FV) (g : Int × Int × Int × Int) => a.1 = g.2.2.2 ∧ 0 ≤ g.2.2.2 ∧ ((g.2.2.2 = 0 ∧ g.1 = -1 ∧ a.2.1 = 1000000) ∨ (0 < g.2.2.2 ∧ a.2.1 = g.1 ∧ g.1 ≠ -1)) ∧ a.2.2.1 = (if S.1 (k + 1) (φ m) = 18 then 2 else 0) + g.2.2.1 + 2 * (if g.2.2.2 ≤ 0 then 0 else g.2.2.2 - 1)) (F := fun v t => partF (S.1 (k + 1) (φ m)) v (W (φ t))) (G := fcR (320 * p) T) (fun a g t ht ⟨r1, r0, r2, r3⟩ => by
          have k18 : tK (sft p T) t = 18 := ht.2.2.2.mpr (by rw [eK]; omega)
          obtain ⟨m1, m2⟩ := kid t ht
          obtain ⟨⟨w1, w2⟩, w3, w4⟩ := ih' t m1 m2
          have ps := ((h.2.2.1 t ht.1 ht.2.1).2 k18).2
          obtain ⟨v1, v2, v3, v4⟩ := (hq t m2).2.2.2.2
          unfold fcv at v1 v4
          show a.1 + 1 = g.2.2.2 + 1 ∧ 0 ≤ g.2.2.2 + 1 ∧ ((g.2.2.2 + 1 = 0 ∧ (if g.1 = -1 ∨ T.1 640 (320 * p + t) < g.1 then T.1 640 (320 * p + t) else g.1) = -1 ∧ (if (W (φ t)).1 < a.2.1 then (W (φ t)).1 else a.2.1) = 1000000) ∨ (0 < g.2.2.2 + 1 ∧ (if (W (φ t)).1 < a.2.1 then (W (φ t)).1 else a.2.1) = (if g.1 = -1 ∨ T.1 640 (320 * p + t) < g.1 then T.1 640 (320 * p + t) else g.1) ∧ (if g.1 = -1 ∨ T.1 640 (320 * p + t) < g.1 then T.1 640 (320 * p + t) else g.1) ≠ -1)) ∧ a.2.2.1 + ((W (φ t)).2.1 + (if a.1 + 1 ≤ 1 then 0 else 2)) = (if S.1 (k + 1) (φ m) = 18 then 2 else 0) + (g.2.2.1 + T.1 643 (320 * p + t)) + 2 * (if g.2.2.2 + 1 ≤ 0 then 0 else g.2.2.2 + 1 - 1)
          rw [w1, show (W (φ t)).2.1 = T.1 643 (320 * p + t) from by rw [ps]; exact w4, r3]
          generalize (if S.1 (k + 1) (φ m) = 18 then (2 : Int) else 0) = g0
          refine ⟨by omega, by omega, Or.inr ⟨by omega, ?_, ?_⟩, ?_⟩
          · rcases r2 with ⟨y1, y2, y3⟩ | ⟨y1, y2, y3⟩
            · rw [if_pos (Or.inl y2)]
              split <;> omega
            · split <;> split <;> omega
          · split <;> omega
          · split <;> split <;> split <;> omega) 320 0 (T.1 626 (320 * p + m)) (0, 1000000, if S.1 (k + 1) (φ m) = 18 then 2 else 0, noP, noP, noP, noP) (-1, 0, 0, 0) lkC ⟨rfl, by show (0 : Int) ≤ 0; omega, Or.inl ⟨rfl, rfl, rfl⟩, by show (if S.1 (k + 1) (φ m) = 18 then (2 : Int) else 0) = (if S.1 (k + 1) (φ m) = 18 then (2 : Int) else 0) + 0 + 2 * (if (0 : Int) ≤ 0 then 0 else 0 - 1); rw [if_pos (Int.le_refl 0)]; omega⟩
        have hCn := (hB.2.2 m hm).2 z8
        have few := b4 hCn
        have e6 := a6 z8
        rw [eX, eC] at e6
        rw [e6]
        change _ ∧ _ ∧ _ ∧ _ at rel
        have eg : chl (fun t => T.1 627 (320 * p + t)) (fcR (320 * p) T) 320 (T.1 626 (320 * p + m)) (-1, 0, 0, 0) = fcG (320 * p) T m := rfl
        rw [eg] at rel
        generalize chl (fun t => T.1 627 (320 * p + t)) (fun v t => partF (S.1 (k + 1) (φ m)) v (W (φ t))) 320 (T.1 626 (320 * p + m)) (0, 1000000, if S.1 (k + 1) (φ m) = 18 then 2 else 0, noP, noP, noP, noP) = a at rel
        generalize fcG (320 * p) T m = g at rel few b3
        obtain ⟨r1, r0, r2, r3⟩ := rel
        unfold fcv at few
        refine ⟨?_, ?_⟩
        · show (if 20 ≤ S.1 (k + 1) (φ m) ∨ (S.1 (k + 1) (φ m) = 8 ∧ a.1 < 2) then 0 else a.2.1) = f640 _ _ _ _
          unfold f640
          rw [if_neg (show ¬ T.1 625 (320 * p + m) = 18 by omega), if_neg (show ¬ T.1 625 (320 * p + m) = 0 by omega)]
          by_cases y : (T.1 625 (320 * p + m) = 8 ∨ T.1 625 (320 * p + m) = 9 ∨ T.1 625 (320 * p + m) = 10) ∨ (T.1 625 (320 * p + m) = 13 ∧ 1 < g.2.2.2)
          · rw [if_pos y, if_neg (show ¬ (20 ≤ S.1 (k + 1) (φ m) ∨ (S.1 (k + 1) (φ m) = 8 ∧ a.1 < 2)) by omega)]
            omega
          · rw [if_neg y, if_pos (show 20 ≤ S.1 (k + 1) (φ m) ∨ (S.1 (k + 1) (φ m) = 8 ∧ a.1 < 2) by omega)]
        · show mlC a.2.2.1 = mlC (fits _ _ _)
          unfold fits
          rw [if_neg (by omega), if_neg (by omega), r3]
          by_cases y : T.1 625 (320 * p + m) = 8
          · rw [if_pos y, if_pos (kc.1.mpr y)]
            refine congrArg mlC ?_
            omega
          · rw [if_neg y, if_neg (fun z => y (kc.1.mp z))]
            refine congrArg mlC ?_
            omega
      · by_cases z18 : T.1 625 (320 * p + m) = 18
        · have rel := chl_mem lkX (fun (a : FV) (g : Int × Int × Int × Int) => (a.1 = mlC g.2.1 ∧ 0 ≤ g.2.1) ∧ a.2.1 = mlC g.2.2.1 ∧ 0 ≤ g.2.2.1) (F := fun v t => rowF v (W (ψ t))) (G := fcR (320 * p) T) (fun a g t ht ⟨⟨r1, r2⟩, r3, r4⟩ => by
            obtain ⟨m1, m2⟩ := kid t ht
            obtain ⟨_, w3, w4⟩ := ih' t m1 m2
            obtain ⟨v1, v2, v3, v4⟩ := (hq t m2).2.2.2.2
            unfold fcv at v2 v4
            show (mlC (a.1 + (W (ψ t)).1) = mlC (g.2.1 + T.1 641 (320 * p + t)) ∧ 0 ≤ g.2.1 + T.1 641 (320 * p + t)) ∧ mlC (a.2.1 + (W (ψ t)).2.1) = mlC (g.2.2.1 + T.1 643 (320 * p + t)) ∧ 0 ≤ g.2.2.1 + T.1 643 (320 * p + t)
            rw [w3, w4, r1, r3, mlC_1 r2 v2.1, mlC_1 r4 v4.1]
            exact ⟨⟨rfl, by omega⟩, rfl, by omega⟩) 320 0 (T.1 626 (320 * p + m)) zFV (-1, 0, 0, 0) lkC ⟨⟨rfl, Int.le_refl 0⟩, rfl, Int.le_refl 0⟩
          have e5 := a5 z18
          rw [eX, eC] at e5
          rw [e5, z18]
          have eg : chl (fun t => T.1 627 (320 * p + t)) (fcR (320 * p) T) 320 (T.1 626 (320 * p + m)) (-1, 0, 0, 0) = fcG (320 * p) T m := rfl
          rw [eg] at rel
          exact ⟨rel.1.1, rel.2.1⟩
        · have noC : T.1 626 (320 * p + m) = -1 := by
            have q := (hF.1.2.2.2.1.2 m hm).2.2.2
            rw [show (sft p T).1 625 (3840 + m) = T.1 625 (320 * p + m) from eK, show (sft p T).1 626 (3840 + m) = T.1 626 (320 * p + m) from eC] at q
            exact Classical.byContradiction fun z => z8 ((q z18).mp z)
          have eg : fcG (320 * p) T m = (-1, 0, 0, 0) := by
            unfold fcG
            rw [noC]
            rfl
          rw [eg]
          unfold f640 fits
          rw [if_neg z18, if_neg z18]
          by_cases z0 : T.1 625 (320 * p + m) = 0
          · rw [a1 z0, if_pos z0, if_pos (by omega)]
            exact ⟨rfl, rfl⟩
          · rw [if_neg z0, if_neg (by omega)]
            by_cases z7 : T.1 625 (320 * p + m) < 7
            · rw [a2 (by omega), if_pos z7]
              exact ⟨rfl, rfl⟩
            · rw [if_neg z7, if_pos (Int.le_refl 0), if_neg (by omega)]
              by_cases y : T.1 625 (320 * p + m) = 7 ∨ T.1 625 (320 * p + m) = 14
              · rw [a3 y]
                exact ⟨rfl, rfl⟩
              · rw [a4 (by omega)]
                exact ⟨rfl, rfl⟩
    refine ⟨atom, ?_⟩
    have hψ := (h.1 m hm).2.1
    have its0 : 0 ≤ fits (T.1 625 (320 * p + m)) (fcG (320 * p) T m).2.2.1 (fcG (320 * p) T m).2.2.2 := by
      unfold fits
      (repeat' split) <;> omega
    rw [q3, q4]
    unfold f641 f643
    by_cases r1 : T.1 630 (320 * p + m) = -1
    · have e : ψ m = φ m := by
        rcases h.2.2.2.2.2.2.2.2 m hm with ⟨_, z⟩ | ⟨⟨z, _⟩, _⟩ | ⟨⟨z, _⟩, _⟩
        · exact z
        · have : tR (sft p T) m = 0 ∨ tR (sft p T) m = 1 := z
          omega
        · have : tR (sft p T) m = 2 := z
          omega
      rw [if_pos r1, if_pos r1, e, atom.1, atom.2, q2]
      exact ⟨rfl, rfl⟩
    · obtain ⟨rl, rh⟩ := FINX_r hF hm (by rw [eR]; exact r1)
      rw [eL] at rl
      rw [eH] at rh
      rw [if_neg r1, if_neg r1]
      have key : ((repF (tL (sft p T) m) (tH (sft p T) m) (W (φ m))).1 = mlC (T.1 640 (320 * p + m) * T.1 631 (320 * p + m))) ∧ (repF (tL (sft p T) m) (tH (sft p T) m) (W (φ m))).2.1 = (if T.1 632 (320 * p + m) = -1 then mlC (fits (T.1 625 (320 * p + m)) (fcG (320 * p) T m).2.2.1 (fcG (320 * p) T m).2.2.2 * (T.1 631 (320 * p + m) + 1) + 2) else mlC ((fits (T.1 625 (320 * p + m)) (fcG (320 * p) T m).2.2.1 (fcG (320 * p) T m).2.2.2 + 1) * T.1 632 (320 * p + m))) := by
        rw [eL, eH]
        refine ⟨?_, ?_⟩
        · show mlC ((W (φ m)).1 * _) = _
          rw [atom.1]
        · show mlC (if T.1 632 (320 * p + m) = -1 then (W (φ m)).2.1 * _ + 2 else ((W (φ m)).2.1 + 1) * _) = _
          rw [atom.2, q2]
          by_cases z : T.1 632 (320 * p + m) = -1
          · rw [if_pos z, if_pos z]
            exact mlC_3 its0 rl.1
          · rw [if_neg z, if_neg z]
            exact mlC_4 its0 (by omega)
      by_cases r2 : T.1 630 (320 * p + m) = 2
      · obtain ⟨x, y, hx, hy⟩ := TREE_2 h hm (by rw [eR]; exact r2)
        obtain ⟨p1, p2, p3, _⟩ := (TREE_r h hm).2 (by rw [eR]; exact r2) x y hx hy
        obtain ⟨w1, w2, w3⟩ := (hw.2 m hm).2.2 (by rw [eR]; exact r2) x y hx hy
        have w1 := w1 (by omega)
        have w2 := w2 (by omega)
        have w3 := w3 (by omega)
        have fy := hw.1 y (by omega)
        have fx : (W x).1 = (W y).1 ∧ (W x).2.1 = (W y).2.1 := by
          rw [w2]
          refine ⟨?_, ?_⟩
          · show mlC (0 + (W y).1) = _
            rw [Int.zero_add, mlC_2 fy.1]
          · show mlC (0 + (W y).2.1) = _
            rw [Int.zero_add, mlC_2 fy.2]
        rw [← w1] at key
        rw [← key.1, ← key.2, w3]
        refine ⟨?_, ?_⟩
        · show (if (20 : Int) ≤ 19 ∨ ((19 : Int) = 8 ∧ (0 : Int) + 1 < 2) then (0 : Int) else (if (W x).1 < 1000000 then (W x).1 else 1000000)) = _
          rw [if_neg (by omega), fx.1]
          have := fy.1.2
          split <;> omega
        · show mlC (0 + ((W x).2.1 + (if (0 : Int) + 1 ≤ 1 then 0 else 2))) = _
          rw [if_pos (by omega), fx.2, Int.zero_add, Int.add_zero, mlC_2 fy.2]
      · have r01 : tR (sft p T) m = 0 ∨ tR (sft p T) m = 1 := by
          rcases h.2.2.2.2.2.2.2.2 m hm with ⟨z, _⟩ | ⟨⟨z, _⟩, _⟩ | ⟨⟨z, _⟩, _⟩
          · have : tR (sft p T) m = -1 := z
            omega
          · exact z
          · have : tR (sft p T) m = 2 := z
            omega
        rw [(hw.2 m hm).2.1 hψ r01]
        exact key
end FACTC8
