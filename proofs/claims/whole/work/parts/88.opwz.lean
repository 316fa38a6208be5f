/-! PROGRAMS: the class writes its nodes one after another -/
section PROG9
variable {Q k g b e N M m t p o : Nat} {X : Nat → Int} {f φ ψ own up lo : Nat → Nat} {Mb : Nat → Prop} {S S0 T U V W : ev_St} {CA CI Lt : Nat → List INS}
def FRw (g : Nat) (S U : ev_St) : Prop := (∀ x i, ¬ ((x = g ∧ i = 5) ∨ x = g + 1 ∨ x = g + 2 ∨ x = 228) → U.1 x i = S.1 x i) ∧ (∀ x i, x ≠ g + 3 → x ≠ g + 4 → U.2.1 x i = S.2.1 x i) ∧ U.2.2 = S.2.2
theorem FRw_b (h : FRw g S U) (hb : FRb b U V) : FRw g S V := ⟨fun x i z => (hb.1 x i (by omega)).trans (h.1 x i z), fun x i a c => by rw [hb.2]; exact h.2.1 x i a c, by rw [hb.2]; exact h.2.2⟩
theorem FRw_p (h : FRw g S U) (hp : FRp g U V) : FRw g S V := ⟨fun x i z => (hp.1 x i (by omega)).trans (h.1 x i z), fun x i a c => (hp.2.1 x i a c).trans (h.2.1 x i a c), hp.2.2.trans h.2.2⟩
def AtQ (φ : Nat → Nat) (S0 : ev_St) (CA : Nat → List INS) (m : Nat) : List INS := if S0.1 229 (φ m) ≠ 0 then [] else CA m
/-- what stands written before the node b is written -/
def WR (g N : Nat) (φ ψ lo : Nat → Nat) (T S0 : ev_St) (CA CI : Nat → List INS) (b : Nat) (U : ev_St) (Lt : Nat → List INS) : Prop := (FRw g S0 U ∧ PL g U (Lt b) ∧ Lt 0 = []) ∧ ∀ m, m < N → (tK T m ≠ 18 → φ m < b → Lt (φ m + 1) = Lt (lo m) ++ AtQ φ S0 CA m ∧ U.1 228 (φ m) = ((Lt (lo m)).length : Int)) ∧ (m ≠ 0 → ψ m < b → Lt (ψ m + 1) = Lt (lo m) ++ StQ φ ψ T S0 CI m ∧ U.1 228 (ψ m) = ((Lt (lo m)).length : Int))
theorem write_b (hF : FINX k N M φ ψ own up S (sft p T)) (hL : LOf N M φ ψ up lo (sft p T)) (hk : ev_isOb k 5 = true) (hkr : 232 ≤ k) (hgk : g = k + 12) (hg : al5 g) (hQ : 500 ≤ Q) (hq : ∀ m, m < N → FQ (320 * p) T m) (hok : ∀ m, m < N → okR (320 * p + m) T) (hC : CDQ k N φ S (sft p T) CA CI) (hv : NVI k N φ ψ up (sft p T) 0 S0) (h643 : T.1 643 (320 * p) ≤ 200) (hS0 : (∀ x i, x ≠ 229 → ¬ (x = g ∧ i = 5) → S0.1 x i = S.1 x i) ∧ S0.2.1 = S.2.1) (hb : b < M) (hw : WR g N φ ψ lo (sft p T) S0 CA CI b U Lt) : ∃ V L2, (∀ K32, jb_71_32 Q g (k + 1) (228 + 1) (229 + 1) K32 (M : Int) (b : Int) U = K32 (M : Int) ((b : Int) + 1) V) ∧ WR g N φ ψ lo (sft p T) S0 CA CI (b + 1) V (fun j => if j = b + 1 then L2 else Lt j) := by
  have h := TREE_of hF
  obtain ⟨l28, l29⟩ := al228
  obtain ⟨l1, l2, l3, l4, l5, _⟩ := al_Pt hk
  have hM : M ≤ 400 := hF.2.1.2.1
  have hN : N ≤ 320 := hF.2.1.2.2.2
  obtain ⟨⟨f1, f2, f3⟩, fa⟩ := hw
  have uS : ∀ j i, j ≤ 11 → j ≠ 0 → U.1 (k + j) i = S.1 (k + j) i := fun j i h1 h2 => by rw [f1.1 _ _ (by omega), hS0.1 _ _ (by omega) (by omega)]
  have lol := fun m hm => lo_le hF hL N m hm (by omega)
  obtain ⟨m, hmE⟩ : ∃ m, m = own b := ⟨_, rfl⟩
  obtain ⟨hm, hb'⟩ := h.2.2.2.2.2.2.1 b hb
  rw [← hmE] at hm hb'
  have uφ : ∀ m', m' < N → φ m' = b → m' = m := fun m' h' e => by rw [hmE, ← e]; exact (h.1 m' h').2.2.1.symm
  have uψ : ∀ m', m' < N → ψ m' = b → m' = m := fun m' h' e => by rw [hmE, ← e]; exact (h.1 m' h').2.2.2.symm
  obtain ⟨o1, o2, o3⟩ := hok m hm
  have eK : tK (sft p T) m = T.1 625 (320 * p + m) := sft_1 (by omega) (by omega)
  have eR : tR (sft p T) m = T.1 630 (320 * p + m) := sft_1 (by omega) (by omega)
  have wle : φ m ≤ ψ m := by
    rcases hL.2.2.2.2.2.1 m hm with y | ⟨_, y⟩ | ⟨_, y⟩ <;> omega
  have lom := lol m hm
  -- beginning of the turn
  obtain ⟨U1, hU1⟩ : ∃ U1, U1 = ev_pI U 228 b ((Lt b).length : Int) := ⟨_, rfl⟩
  have b1 : FRb b U U1 := by
    rw [hU1]
    exact ⟨fun x i z => by rw [sp_pI1, if_neg z], rfl⟩
  have p1 : PL g U1 (Lt b) := PL_b f2 b1 (by omega)
  have v1 : U1.1 228 b = ((Lt b).length : Int) := by rw [hU1, rd_eq]
  have n1 : U1.1 229 b = S0.1 229 b := by rw [b1.1 _ _ (by omega), f1.1 _ _ (by omega)]
  have turn : ∀ V, (S0.1 229 b ≠ 0 ∧ V = U1 ∨ S0.1 229 b = 0 ∧ jm_73 Q g (k + 1) (b : Int) (228 + 1) U1 = some ((), V)) → ∀ K32, jb_71_32 Q g (k + 1) (228 + 1) (229 + 1) K32 (M : Int) (b : Int) U = K32 (M : Int) ((b : Int) + 1) V := fun V hV K32 => by
    unfold jb_71_32
    rw [if_neg (by omega), sp_b, f2.1, sp_if (by omega), show (228 + 1 - 1 : Nat) = 228 from rfl, sp_if (by rw [l28]; omega), sp_b, Int.toNat_natCast, ← hU1, sp_if (by omega), show (229 + 1 - 1 : Nat) = 229 from rfl, sp_if (by rw [l29]; omega), sp_b, n1, sp_jn]
    rcases hV with ⟨z, z2⟩ | ⟨z, z2⟩
    · rw [if_pos z, z2]
      try dsimp only
      rw [sp_ck (by omega)]
    · rw [if_neg (fun y => y z), z2, sp_bd]
      try dsimp only
      rw [sp_ck (by omega)]
  -- end of the turn
  have fin : ∀ V L2, (S0.1 229 b ≠ 0 ∧ V = U1 ∨ S0.1 229 b = 0 ∧ jm_73 Q g (k + 1) (b : Int) (228 + 1) U1 = some ((), V)) → FRw g S0 V → (∀ j, j ≠ b → V.1 228 j = U.1 228 j) → PL g V L2 → (tK (sft p T) m ≠ 18 → φ m = b → L2 = Lt (lo m) ++ AtQ φ S0 CA m ∧ V.1 228 b = ((Lt (lo m)).length : Int)) → (m ≠ 0 → ψ m = b → L2 = Lt (lo m) ++ StQ φ ψ (sft p T) S0 CI m ∧ V.1 228 b = ((Lt (lo m)).length : Int)) → ∃ V L2, (∀ K32, jb_71_32 Q g (k + 1) (228 + 1) (229 + 1) K32 (M : Int) (b : Int) U = K32 (M : Int) ((b : Int) + 1) V) ∧ WR g N φ ψ lo (sft p T) S0 CA CI (b + 1) V (fun j => if j = b + 1 then L2 else Lt j) := fun V L2 r1 r2 r3 r4 r5 r6 => by
    refine ⟨V, L2, turn V r1, ⟨r2, ?_, ?_⟩, fun m' h' => ⟨fun k18 hb2 => ?_, fun h0 hb2 => ?_⟩⟩
    · show PL g V (if b + 1 = b + 1 then L2 else Lt (b + 1))
      rw [if_pos rfl]
      exact r4
    · show (if 0 = b + 1 then L2 else Lt 0) = []
      rw [if_neg (by omega)]
      exact f3
    · have lm' := lol m' h'
      show (if φ m' + 1 = b + 1 then L2 else Lt (φ m' + 1)) = (if lo m' = b + 1 then L2 else Lt (lo m')) ++ _ ∧ V.1 228 (φ m') = (((if lo m' = b + 1 then L2 else Lt (lo m')).length : Nat) : Int)
      rw [if_neg (show ¬ lo m' = b + 1 by omega)]
      by_cases z : φ m' = b
      · have em := uφ m' h' z
        rw [if_pos (show φ m' + 1 = b + 1 by omega), z, em]
        rw [em] at k18 z
        exact r5 k18 z
      · rw [if_neg (show ¬ φ m' + 1 = b + 1 by omega), r3 _ z]
        exact (fa m' h').1 k18 (by omega)
    · have lm' := lol m' h'
      have w' : φ m' ≤ ψ m' := by
        rcases hL.2.2.2.2.2.1 m' h' with y | ⟨_, y⟩ | ⟨_, y⟩ <;> omega
      show (if ψ m' + 1 = b + 1 then L2 else Lt (ψ m' + 1)) = (if lo m' = b + 1 then L2 else Lt (lo m')) ++ _ ∧ V.1 228 (ψ m') = (((if lo m' = b + 1 then L2 else Lt (lo m')).length : Nat) : Int)
      rw [if_neg (show ¬ lo m' = b + 1 by omega)]
      by_cases z : ψ m' = b
      · have em := uψ m' h' z
        rw [if_pos (show ψ m' + 1 = b + 1 by omega), z, em]
        rw [em] at h0 z
        exact r6 h0 z
      · rw [if_neg (show ¬ ψ m' + 1 = b + 1 by omega), r3 _ z]
        exact (fa m' h').2 h0 (by omega)
  have fw1 : FRw g S0 U1 := FRw_b f1 b1
  have k228 : ∀ j, j ≠ b → U1.1 228 j = U.1 228 j := fun j hj => b1.1 _ _ (by omega)
  have bu : S0.1 229 (ψ m) = 0 → b = φ m ∨ b = ψ m → ((Lt (lo m)).length : Int) + T.1 643 (320 * p + m) ≤ 200 := fun hn hbm => BU_all hF hL hq hok hC hv f3 h643 m m (Nat.le_refl _) hm hn (fun s s1 s2 s3 => ((fa s s1).2 s2 (by omega)).1)
  have sz := SZ_all hF hq hok hC N m hm (by omega)
  by_cases c1 : b = φ m
  · have kb : ∀ t, Kid N up (sft p T) m t → ψ t < b ∧ t ≠ 0 ∧ t < N := fun t ht => by
      have q := h.2.2.2.2.2.1 t ht.1 ht.2.1
      rw [ht.2.2.1] at q
      exact ⟨by omega, ht.2.1, ht.1⟩
    have cat := cat_all (Lt := Lt) (St := StQ φ ψ (sft p T) S0 CI) hF hL hm (fun t ht => ((fa t (kb t ht).2.2).2 (kb t ht).2.1 (kb t ht).1).1)
    rw [← c1] at cat
    have nvk : ∀ t, Kid N up (sft p T) m t → (S0.1 229 (ψ t) ≠ 0 ↔ S0.1 229 b ≠ 0) := fun t ht => by
      have q := (hv.1 t ht.1 ht.2.1).1 (Nat.zero_le _)
      rw [ht.2.2.1, ← c1] at q
      exact q
    by_cases nb : S0.1 229 b ≠ 0
    · -- never written
      have e0 : ((lstC (tX (sft p T)) 320 (tC (sft p T) m)).map (StQ φ ψ (sft p T) S0 CI)).flatten = [] := by
        rw [List.flatten_eq_nil_iff]
        intro l hl
        obtain ⟨t, t1, t2⟩ := List.mem_map.mp hl
        have kt := lst_mb (Kid_X h) 320 0 _ (Kid_C h hm) t t1
        rw [← t2]
        unfold StQ
        rw [if_pos ((nvk t kt).mpr nb)]
      rw [e0, List.append_nil] at cat
      refine fin U1 (Lt b) (Or.inl ⟨nb, rfl⟩) fw1 k228 p1 (fun _ _ => ?_) (fun _ z => ?_)
      · unfold AtQ
        rw [← c1, if_pos nb, List.append_nil, v1, cat]
        exact ⟨rfl, rfl⟩
      · unfold StQ
        rw [z, if_pos nb, List.append_nil, v1, cat]
        exact ⟨rfl, rfl⟩
    · have nb0 : S0.1 229 b = 0 := Classical.byContradiction nb
      -- the item is written too
      have nI : S0.1 229 (ψ m) = 0 := by
        rcases h.2.2.2.2.2.2.2.2 m hm with ⟨_, z1⟩ | ⟨⟨z, _⟩, _⟩ | ⟨⟨z, _⟩, _⟩
        · rw [z1, ← c1]
          exact nb0
        · have q := (hv.2.1 m hm z).1 (Nat.zero_le _)
          rw [← c1] at q
          exact Classical.byContradiction fun w => (q.mpr (Or.inl w)) nb0
        · have z' : tR (sft p T) m = 2 := z
          rw [eR] at z'
          exact absurd z' o2
      have bm := bu nI (Or.inl c1)
      have its := its_le (hq m hm) (by omega) (by
        have hB := TB_of hF
        obtain ⟨b1, b2, b3, b4⟩ := fcG_b hB hm (fun t a c => (hq t c).2.2.2.2)
        unfold fits
        (repeat' split) <;> omega) (by
        rcases h.2.2.2.2.2.2.2.2 m hm with ⟨z, _⟩ | ⟨⟨z, _⟩, _⟩ | ⟨⟨z, _⟩, _⟩
        · refine Or.inl ?_
          rw [← eR]
          exact z
        · have q := (hv.2.1 m hm z).1 (Nat.zero_le _)
          rw [← c1] at q
          have nn : ¬ (S0.1 229 (ψ m) ≠ 0 ∨ tH (sft p T) m = 0) := fun w => (q.mpr w) nb0
          have bv := FINX_r hF hm (by
            have z' : tR (sft p T) m = 0 ∨ tR (sft p T) m = 1 := z
            omega)
          have eL : tL (sft p T) m = T.1 631 (320 * p + m) := sft_1 (by omega) (by omega)
          have eH : tH (sft p T) m = T.1 632 (320 * p + m) := sft_1 (by omega) (by omega)
          rw [eL, eH] at bv
          rw [eH] at nn
          exact Or.inr ⟨bv.1.1, by omega⟩
        · have z' : tR (sft p T) m = 2 := z
          rw [eR] at z'
          exact absurd z' o2)
      have lCA : ((CA m).length : Int) ≤ T.1 643 (320 * p + m) := by
        have q2 := (hq m hm).2.1
        have i1 := mlC_i (fits (T.1 625 (320 * p + m)) (fcG (320 * p) T m).2.2.1 (fcG (320 * p) T m).2.2.2)
        have := sz.1 (by omega)
        omega
      -- where it begins
      have beg : ∃ U2, jm_73 Q g (k + 1) (b : Int) (228 + 1) U1 = R73 Q g (k + 1) (b : Int) (228 + 1) (U1.1 (k + 1) b) U2 ∧ FRb b U1 U2 ∧ U2.1 228 b = ((Lt (lo m)).length : Int) := by
        refine W73 hk hkr (by omega) ?_
        rw [b1.1 _ _ (by omega), uS 4 _ (by omega) (by omega)]
        rcases Kid_C h hm with z | ⟨c, z, z1, z2⟩
        · refine Or.inl ⟨?_, ?_⟩
          · rw [c1]
            by_cases k18 : tK (sft p T) m = 18
            · rw [(h.2.1 m hm).1 k18, z, show img ψ (-1) = -1 from if_pos rfl]
              omega
            · rw [(h.2.1 m hm).2 k18, z, show img φ (-1) = -1 from if_pos rfl]
              omega
          · rw [v1, cat, z, show lstC (tX (sft p T)) 320 (-1) = [] from by rw [show (320 : Nat) = 319 + 1 from rfl, lstC, if_pos rfl], List.map_nil, List.flatten_nil, List.append_nil]
        · have lc := (hL.2.2.1 m c hm z).1
          have kc := kb c z2
          have cf := ((fa c kc.2.2).2 kc.2.1 kc.1).2
          rw [lc] at cf
          refine Or.inr ⟨ψ c, ?_, by omega, by rw [k228 _ (by omega)]; exact cf⟩
          rw [c1]
          by_cases k18 : tK (sft p T) m = 18
          · rw [(h.2.1 m hm).1 k18, z, img_n]
          · have k18' : tK (sft p T) c = 18 := z2.2.2.2.mpr k18
            rw [(h.2.1 m hm).2 k18, z, img_n, ((h.2.2.1 c z2.1 z2.2.1).2 k18').2]
      obtain ⟨U2, j1, j2, j3⟩ := beg
      have p2 : PL g U2 (Lt b) := PL_b p1 j2 (by omega)
      have fw2 : FRw g S0 U2 := FRw_b fw1 j2
      have kd : U1.1 (k + 1) b = S.1 (k + 1) (φ m) := by rw [b1.1 _ _ (by omega), uS 1 _ (by omega) (by omega), c1]
      rw [kd] at j1
      -- the code is written
      have done : ∀ V L2, R73 Q g (k + 1) (b : Int) (228 + 1) (S.1 (k + 1) (φ m)) U2 = some ((), V) → FRp g U2 V → PL g V L2 → (tK (sft p T) m ≠ 18 → L2 = Lt (lo m) ++ CA m) → (m ≠ 0 → ψ m = b → L2 = Lt (lo m) ++ StQ φ ψ (sft p T) S0 CI m) → ∃ V L2, (∀ K32, jb_71_32 Q g (k + 1) (228 + 1) (229 + 1) K32 (M : Int) (b : Int) U = K32 (M : Int) ((b : Int) + 1) V) ∧ WR g N φ ψ lo (sft p T) S0 CA CI (b + 1) V (fun j => if j = b + 1 then L2 else Lt j) := fun V L2 w1 w2 w3 w4 w5 => by
        have e228 : V.1 228 b = ((Lt (lo m)).length : Int) := by rw [w2.1 _ _ (by omega)]; exact j3
        refine fin V L2 (Or.inr ⟨nb0, j1.trans w1⟩) (FRw_p fw2 w2) (fun j hj => by rw [w2.1 _ _ (by omega), j2.1 _ _ (by omega)]; exact k228 j hj) w3 (fun k18 _ => ⟨?_, e228⟩) (fun h0 z => ⟨w5 h0 z, e228⟩)
        unfold AtQ
        rw [← c1, if_neg nb]
        exact w4 k18
      have stI : ψ m = b → tK (sft p T) m ≠ 18 → StQ φ ψ (sft p T) S0 CI m = CA m := fun z k18 => by
        unfold StQ
        rw [z, if_neg nb, if_neg (fun y => k18 y.1)]
        refine (hC m hm).2.2.2.2.2.1 ?_
        rcases h.2.2.2.2.2.2.2.2 m hm with ⟨y, _⟩ | ⟨⟨_, y⟩, _⟩ | ⟨⟨_, y⟩, _⟩
        · exact y
        · exact absurd (c1.symm.trans z.symm) y
        · exact absurd (c1.symm.trans z.symm) y
      obtain ⟨kr, kk⟩ := FINX_K hF hm
      have ki := kcl_i (c := tK (sft p T) m) (f := (sft p T).1 629 (3840 + m)) kr
      have kk2 : tK (sft p T) m ≠ 9 → S.1 (k + 1) (φ m) = kcl (tK (sft p T) m) ((sft p T).1 629 (3840 + m)) := fun z => by
        rcases kk with ⟨_, y, _⟩ | ⟨_, y⟩
        · exact absurd y z
        · exact y
      have cC : tK (sft p T) m ≠ 18 → (tC (sft p T) m ≠ -1 ↔ 8 ≤ tK (sft p T) m ∧ tK (sft p T) m ≤ 13) := (hF.1.2.2.2.1.2 m hm).2.2.2
      have rb : ψ m = b → tR (sft p T) m = -1 := fun z => by
        rcases h.2.2.2.2.2.2.2.2 m hm with ⟨y, _⟩ | ⟨⟨_, y⟩, _⟩ | ⟨⟨_, y⟩, _⟩
        · exact y
        · exact absurd (c1.symm.trans z.symm) y
        · exact absurd (c1.symm.trans z.symm) y
      rw [← eK] at o1
      by_cases k7 : tK (sft p T) m < 7
      · have noC : Lt b = Lt (lo m) := by
          have z : tC (sft p T) m = -1 := Classical.byContradiction fun z => by
            have := (cC (by omega)).mp z
            omega
          rw [cat, z, show lstC (tX (sft p T)) 320 (-1) = [] from by rw [show (320 : Nat) = 319 + 1 from rfl, lstC, if_pos rfl], List.map_nil, List.flatten_nil, List.append_nil]
        have lb : (Lt b).length < 208 := by rw [noC]; omega
        by_cases k0 : tK (sft p T) m = 0
        · have e0 : S.1 (k + 1) (φ m) = 0 := by rw [kk2 (by omega)]; exact ki.1 k0
          obtain ⟨V, w1, w2, w3⟩ := W73_0 (Q := Q) (b := b) hk hkr hg (by omega) j3 p2 lb
          have s8 : U2.2.1 (k + 8) b = S.2.1 (k + 8) (φ m) ∧ U2.2.1 (k + 9) b = S.2.1 (k + 9) (φ m) := by
            rw [j2.2, b1.2, f1.2.1 _ _ (by omega) (by omega), f1.2.1 _ _ (by omega) (by omega), hS0.2, c1]
            exact ⟨rfl, rfl⟩
          rw [s8.1, s8.2] at w3
          have eA : Lt b ++ [(0, 0, S.2.1 (k + 8) (φ m), S.2.1 (k + 9) (φ m))] = Lt (lo m) ++ CA m := by rw [noC, (hC m hm).1 k0]
          rw [eA] at w3
          exact done V _ (by rw [e0]; exact w1) w2 w3 (fun _ => rfl) (fun _ z => by rw [stI z (by omega)])
        · have e0 : 1 ≤ S.1 (k + 1) (φ m) ∧ S.1 (k + 1) (φ m) ≤ 6 := by rw [kk2 (by omega)]; exact ki.2.1 (by omega)
          obtain ⟨V, w1, w2, w3⟩ := W73_1 (Q := Q) (k := k) (b := b) e0 hg (by omega) j3 p2 lb
          have eA : Lt b ++ [ins 1 (S.1 (k + 1) (φ m))] = Lt (lo m) ++ CA m := by rw [noC, (hC m hm).2.1 (by omega)]
          rw [eA] at w3
          exact done V _ w1 w2 w3 (fun _ => rfl) (fun _ z => by rw [stI z (by omega)])
      · by_cases k18 : tK (sft p T) m = 18
        · have m0 : m ≠ 0 := fun e => by
            have y : tK (sft p T) 0 = 9 := hF.1.1.2.2.2.1
            rw [e] at k18
            omega
          have e0 : S.1 (k + 1) (φ m) = 15 := by rw [kk2 (by omega)]; exact ki.2.2.2.2.2.1 k18
          have eX' : Lt b = Lt (lo m) ++ CA m := by
            rw [cat, (hC m hm).2.2.1 k18]
            refine congrArg _ (congrArg _ (List.map_congr_left fun t ht => ?_))
            have kt := lst_mb (Kid_X h) 320 0 _ (Kid_C h hm) t ht
            unfold StQ
            rw [if_neg (fun y => nb ((nvk t kt).mp y)), if_neg (fun y => (kt.2.2.2.mp y.1) k18)]
          have p2' := p2
          rw [eX'] at p2'
          obtain ⟨q1, q2⟩ := W73_row (Q := Q) (k := k) (b := b) (A := Lt (lo m)) (X := CA m) hk hg (by omega) j3 p2' (by omega)
          have sb : U2.1 (k + 5) b = img φ (tX (sft p T) m) := by
            rw [j2.1 _ _ (by omega), b1.1 _ _ (by omega), uS 5 _ (by omega) (by omega), c1]
            exact ((h.2.2.1 m hm m0).2 k18).1
          have ci : CI m = CA m := (hC m hm).2.2.2.2.2.1 (hF.1.2.2.1 m hm k18)
          rw [sb] at q1 q2
          by_cases zx : tX (sft p T) m = -1
          · refine done U2 (Lt b) (by rw [e0]; exact q1 (by rw [zx, show img φ (-1) = -1 from if_pos rfl]; omega)) FRp_r p2 (fun z => absurd k18 z) (fun _ z => ?_)
            unfold StQ
            rw [z, if_neg nb, if_neg (fun y => y.2 zx), ci, eX']
          · obtain ⟨V, w1, w2, w3⟩ := q2 (by
              rcases h.2.2.2.2.1 m hm with y | ⟨u, y, _⟩
              · exact absurd y zx
              · rw [y, img_n]
                omega)
            refine done V _ (by rw [e0]; exact w1) w2 w3 (fun z => absurd k18 z) (fun _ z => ?_)
            unfold StQ
            rw [z, if_neg nb, if_pos ⟨k18, zx⟩, ci, List.append_assoc]
        · have k89 : tK (sft p T) m = 8 ∨ tK (sft p T) m = 9 := by omega
          have kp : ∀ t, Kid N up (sft p T) m t → φ t = ψ t ∧ tK (sft p T) t = 18 := fun t ht => by
            have y : tK (sft p T) t = 18 := ht.2.2.2.mpr k18
            exact ⟨((h.2.2.1 t ht.1 ht.2.1).2 y).2, y⟩
          have sq : ∀ t, Kid N up (sft p T) m t → (tX (sft p T) t = -1 → StQ φ ψ (sft p T) S0 CI t = CI t) ∧ (tX (sft p T) t ≠ -1 → StQ φ ψ (sft p T) S0 CI t = (ins 3 (((CI t).length : Int) + 2) :: CI t) ++ [ins 2 0]) := fun t ht => by
            unfold StQ
            rw [if_neg (fun y => nb ((nvk t ht).mp y))]
            exact ⟨fun z => if_neg (fun y => y.2 z), fun z => if_pos ⟨(kp t ht).2, z⟩⟩
          rcases Kid_C h hm with z | ⟨c, z, z1, z2⟩
          · exact absurd z ((cC k18).mpr (by omega))
          · have lc := (hL.2.2.1 m c hm z).1
            have pre := pre_all (CI := CI) (Kid_X h) sq 320 0 c (by omega) (by omega) z2
            have eP : Lt b = Lt (lo m) ++ preR ((lstC (tX (sft p T)) 320 (c : Int)).map CI) := by rw [cat, z, pre]
            have p2' := p2
            rw [eP] at p2'
            have u2 : ∀ x i, ¬ ((x = g ∧ i = 5) ∨ x = g + 1 ∨ x = g + 2 ∨ x = 228) → U2.1 x i = S0.1 x i := fw2.1
            have kM : U2.1 k 11 = (M : Int) := by rw [u2 _ _ (by omega), hS0.1 _ _ (by omega) (by omega)]; exact hF.2.1.1
            obtain ⟨V0, a1, a2, a3⟩ := aim_l (Q := Q) (f := φ) (code := CI) (bg := fun t => (Lt (lo t)).length) hg hgk hkr l5 (Kid_X h) 320 Q 0 0 c (Lt (lo m)) U2 (by omega) (by omega) (by omega) (by omega) z2 (fun t ht => by
              have kt := kb t ht
              have ft := (fa t ht.1).2 kt.2.1 kt.1
              refine ⟨by rw [u2 _ _ (by omega), hS0.1 _ _ (by omega) (by omega)]; exact ((h.2.2.1 t ht.1 ht.2.1).2 (kp t ht).2).1, by rw [kM]; have := (h.1 t ht.1).1; omega, by have := (h.1 t ht.1).1; omega, ?_, fun u hu => ?_⟩
              · rw [(kp t ht).1, j2.1 _ _ (by omega), k228 _ (by omega)]
                exact ft.2
              · show (Lt (lo u)).length = (Lt (lo t)).length + (CI t).length + 2
                have q := (hL.2.2.2.1 t u ht.1 hu).1
                rw [q, ft.1, (sq t ht).2 (by omega), List.length_append, List.length_append, List.length_cons]
                show _ + (_ + 1 + 1) = _
                omega) (by show (Lt (lo m)).length = (Lt (lo c)).length; rw [lc]) p2'
            have eY : cdR ((lstC (tX (sft p T)) 320 (tC (sft p T) m)).map CI) = cdR ((lstC (tX (sft p T)) 320 (c : Int)).map CI) := by rw [z]
            have c4 : U2.1 (k + 4) b = (φ c : Int) := by
              rw [u2 _ _ (by omega), hS0.1 _ _ (by omega) (by omega), c1, (h.2.1 m hm).2 k18, z, img_n]
            have run : jm_74 Q g (k + 1) (b : Int) (228 + 1) U2 = some ((), V0) := by
              unfold jm_74
              rw [sp_if (by omega), show k + 1 - 1 = k from rfl, sp_if (by rw [l4]; omega), sp_b, Int.toNat_natCast, c4]
              exact a1
            have codes : tK (sft p T) m = 8 ∧ S.1 (k + 1) (φ m) = 18 ∧ m ≠ 0 ∨ tK (sft p T) m = 9 ∧ (S.1 (k + 1) (φ m) = 16 ∨ S.1 (k + 1) (φ m) = 17) := by
              rcases k89 with y | y
              · refine Or.inl ⟨y, ?_, fun e => ?_⟩
                · rw [kk2 (by omega)]
                  exact (ki.2.2.2.2.2.2 (by omega)).2.mpr y
                · have y' : tK (sft p T) 0 = 9 := hF.1.1.2.2.2.1
                  rw [e] at y
                  omega
              · refine Or.inr ⟨y, ?_⟩
                rcases kk with ⟨_, _, w⟩ | ⟨_, w⟩
                · exact Or.inl w
                · refine Or.inr ?_
                  rw [w, y]
                  rfl
            have num : S.1 (k + 1) (φ m) = 18 → U2.1 (k + 2) b = (sft p T).1 628 (3840 + m) ∧ 0 ≤ (sft p T).1 628 (3840 + m) ∧ (sft p T).1 628 (3840 + m) ≤ 9 := fun w => by
              rcases codes with ⟨y, _, m0⟩ | ⟨y, w2⟩
              · have q := (hF.1.1.1 m hm m0).2.1.2.2.1 (Or.inr (Or.inl y))
                have r := (hF.1.2.2.2.1.1 m hm).1.2.2.2.1 (Or.inl y)
                refine ⟨by rw [u2 _ _ (by omega), hS0.1 _ _ (by omega) (by omega), c1]; exact q, by omega, by omega⟩
              · omega
            have fits2 : (Lt (lo m)).length + (cdR ((lstC (tX (sft p T)) 320 (c : Int)).map CI)).length + 2 ≤ 208 := by
              rcases codes with ⟨y, _⟩ | ⟨y, _⟩
              · have q := (hC m hm).2.2.2.1 y
                rw [eY] at q
                rw [q, List.length_append, List.length_cons] at lCA
                have : ((((cdR ((lstC (tX (sft p T)) 320 (c : Int)).map CI)).length + 1) + 1 : Nat) : Int) ≤ T.1 643 (320 * p + m) := lCA
                omega
              · have q := (hC m hm).2.2.2.2.1 y
                rw [eY] at q
                rw [q] at lCA
                omega
            obtain ⟨V, w1, w2, w3⟩ := W73_part (Q := Q) (k := k) (b := b) (A := Lt (lo m)) (X := []) (Y := cdR ((lstC (tX (sft p T)) 320 (c : Int)).map CI)) (kd := S.1 (k + 1) (φ m)) (num := (sft p T).1 628 (3840 + m)) hk hgk (by omega) hg (by omega) j3 num ⟨V0, run, a2, a3⟩ fits2
            refine done V _ w1 w2 w3 (fun _ => ?_) (fun _ zb => ?_)
            · rcases codes with ⟨y, y2, _⟩ | ⟨y, y2⟩
              · rw [if_pos y2, (hC m hm).2.2.2.1 y, eY]
              · rw [if_neg (by omega), (hC m hm).2.2.2.2.1 y, eY]
            · rw [stI zb k18]
              rcases codes with ⟨y, y2, _⟩ | ⟨y, y2⟩
              · rw [if_pos y2, (hC m hm).2.2.2.1 y, eY]
              · rw [if_neg (by omega), (hC m hm).2.2.2.2.1 y, eY]
  · -- a repeat
    have r01 : (tR (sft p T) m = 0 ∨ tR (sft p T) m = 1) ∧ S.1 (k + 1) (ψ m) = 13 + tR (sft p T) m ∧ S.1 (k + 4) (ψ m) = (φ m : Int) ∧ S.1 (k + 2) (ψ m) = tL (sft p T) m ∧ S.1 (k + 3) (ψ m) = tH (sft p T) m ∧ b = ψ m := by
      rcases h.2.2.2.2.2.2.2.2 m hm with ⟨z0, z⟩ | ⟨⟨z, _⟩, z2, z3, z4, z5, _⟩ | ⟨⟨z, _⟩, _⟩
      · have z0' : tR (sft p T) m = -1 := z0
        rcases hb' with y | y | y
        · exact absurd y c1
        · exact absurd (y.trans z) c1
        · have := y.1
          omega
      · refine ⟨z, z2, z3, z4, z5, ?_⟩
        rcases hb' with y | y | y
        · exact absurd y c1
        · exact y
        · have y1 : tR (sft p T) m = 2 := y.1
          have z' : tR (sft p T) m = 0 ∨ tR (sft p T) m = 1 := z
          omega
      · have z' : tR (sft p T) m = 2 := z
        rw [eR] at z'
        exact absurd z' o2
    obtain ⟨r01, kd, ch, lo', hi', bψ⟩ := r01
    have lt := (TREE_r h hm).1 r01
    have b1' : b = φ m + 1 := by
      rcases hL.2.2.2.2.2.1 m hm with y | ⟨_, y⟩ | ⟨y0, y⟩
      · omega
      · omega
      · have y' : tR (sft p T) m = 2 := y0
        omega
    have k18 : tK (sft p T) m ≠ 18 := fun z => by
      have y : tR (sft p T) m = -1 := hF.1.2.2.1 m hm z
      omega
    have fm := (fa m hm).1 k18 (by omega)
    rw [← b1'] at fm
    obtain ⟨rl, rh⟩ := FINX_r hF hm (by omega)
    have nv := (hv.2.1 m hm r01).1 (Nat.zero_le _)
    rw [← bψ] at nv
    have cont : ∀ z : φ m = b, False := fun z => c1 z.symm
    by_cases nb : S0.1 229 b ≠ 0
    · have nA := nv.mpr (Or.inl nb)
      have eL : Lt b = Lt (lo m) := by
        rw [fm.1]
        unfold AtQ
        rw [if_pos nA, List.append_nil]
      refine fin U1 (Lt b) (Or.inl ⟨nb, rfl⟩) fw1 k228 p1 (fun _ z => absurd z.symm c1) (fun _ z => ?_)
      unfold StQ
      rw [z, if_pos nb, List.append_nil, v1, eL]
      exact ⟨rfl, rfl⟩
    · have nb0 : S0.1 229 b = 0 := Classical.byContradiction nb
      have bm := bu (by rw [← bψ]; exact nb0) (Or.inr bψ)
      obtain ⟨U2, j1, j2, j3⟩ := W73 (Q := Q) (g := g) (k := k) (b := b) (U := U1) (n := (Lt (lo m)).length) hk hkr (by omega) (Or.inr ⟨φ m, by rw [b1.1 _ _ (by omega), uS 4 _ (by omega) (by omega), bψ]; exact ch, by omega, by rw [k228 _ (by omega)]; exact fm.2⟩)
      have p2 : PL g U2 (Lt (lo m) ++ AtQ φ S0 CA m) := by
        have q := PL_b p1 j2 (by omega)
        rw [fm.1] at q
        exact q
      have fw2 : FRw g S0 U2 := FRw_b fw1 j2
      have u2 : ∀ j i, j ≤ 11 → j ≠ 0 → U2.1 (k + j) i = S.1 (k + j) i := fun j i h1 h2 => by rw [j2.1 _ _ (by omega), b1.1 _ _ (by omega), uS j i h1 h2]
      have kd1 : U1.1 (k + 1) b = S.1 (k + 1) (ψ m) := by rw [b1.1 _ _ (by omega), uS 1 _ (by omega) (by omega), bψ]
      rw [kd1] at j1
      -- the code, with its repeat
      have ec : ∀ fork, repL fork (tL (sft p T) m) (tH (sft p T) m) (AtQ φ S0 CA m) = repL fork (tL (sft p T) m) (tH (sft p T) m) (CA m) := fun fork => by
        unfold AtQ
        by_cases y : S0.1 229 (φ m) ≠ 0
        · have hz := (nv.mp y).resolve_left nb
          have c0 : cpsN (tL (sft p T) m) (tH (sft p T) m) = 0 := by
            unfold cpsN
            rw [if_neg (by omega)]
            omega
          unfold repL
          rw [if_pos c0, if_pos c0]
        · rw [if_neg y]
      have eCI : repL (if S.1 (k + 1) (ψ m) = 13 then 3 else 4) (tL (sft p T) m) (tH (sft p T) m) (AtQ φ S0 CA m) = CI m := by
        rw [ec, kd]
        rcases r01 with y | y
        · rw [if_pos (by omega), (hC m hm).2.2.2.2.2.2.1 y]
        · rw [if_neg (by omega), (hC m hm).2.2.2.2.2.2.2 y]
      have lCI := sz.2 (by omega)
      obtain ⟨V, w1, w2, w3⟩ := W73_r (Q := Q) (k := k) (b := b) (U := U2) (A := Lt (lo m)) (X := AtQ φ S0 CA m) (kd := S.1 (k + 1) (ψ m)) (lo := tL (sft p T) m) (hi := tH (sft p T) m) (by omega) hk (by omega) hg (by omega) j3 (by rw [u2 2 _ (by omega) (by omega), bψ]; exact lo') (by rw [u2 3 _ (by omega) (by omega), bψ]; exact hi') rl rh p2 (by rw [eCI]; omega)
      rw [eCI] at w3
      refine fin V _ (Or.inr ⟨nb0, j1.trans w1⟩) (FRw_p fw2 w2) (fun j hj => by rw [w2.1 _ _ (by omega), j2.1 _ _ (by omega)]; exact k228 j hj) w3 (fun _ z => absurd z.symm c1) (fun _ z => ⟨?_, by rw [w2.1 _ _ (by omega)]; exact j3⟩)
      unfold StQ
      rw [z, if_neg nb, if_neg (fun y => k18 y.1)]
end PROG9
