/-! PROGRAMS: there is room for all of it -/
section PROG8
variable {Q k g b e N M m t p o : Nat} {X : Nat → Int} {f φ ψ own up lo : Nat → Nat} {Mb : Nat → Prop} {S T U V W : ev_St} {CA CI St Lt : Nat → List INS}
theorem lo_le (hF : FINX k N M φ ψ own up S T) (hL : LOf N M φ ψ up lo T) : ∀ n m, m < N → N ≤ m + n → lo m ≤ φ m := fun n => by
  have h := TREE_of hF
  induction n with
  | zero => intro m h1 h2; omega
  | succ n ih =>
    intro m hm hn
    rcases h.2.2.2.1 m hm with z | ⟨t, z, z1, z2, z3, _⟩
    · rw [hL.2.1 m hm z]
      exact Nat.le_refl _
    · have q := hL.2.2.1 m t hm z
      have i := ih t z2 (by omega)
      have u := h.2.2.2.2.2.1 t z2 (by omega)
      rw [z3] at u
      have w : φ t ≤ ψ t := by
        rcases hL.2.2.2.2.2.1 t z2 with y | ⟨_, y⟩ | ⟨_, y⟩ <;> omega
      omega
/-- a node's codes stand behind those of the nodes ahead of it in its row -/
theorem pre_of (hF : FINX k N M φ ψ own up S T) (hL : LOf N M φ ψ up lo T) (hm : m < N) : ∀ (n b0 u s : Nat), N ≤ b0 + n → b0 ≤ u → Kid N up T m u → s ∈ lstC (tX T) n (u : Int) → ∃ pre post, lstC (tX T) n (u : Int) = pre ++ s :: post ∧ ((∀ t, t ∈ pre → ψ t < lo s ∧ tX T t ≠ -1 ∧ Kid N up T m t) ∧ ((∀ t, t ∈ pre → Lt (ψ t + 1) = Lt (lo t) ++ St t) → Lt (lo s) = Lt (lo u) ++ (pre.map St).flatten)) ∧ lo u ≤ lo s := fun n => by
  have hX := Kid_X (TREE_of hF) (m := m)
  induction n with
  | zero =>
    intro b0 u s h1 h2 h3 _
    have := h3.1
    omega
  | succ n ih =>
    intro b0 u s h1 h2 h3 hs
    have e : lstC (tX T) (n + 1) (u : Int) = u :: lstC (tX T) n (tX T u) := by rw [lstC, if_neg (by omega), Int.toNat_natCast]
    rw [e] at hs ⊢
    by_cases z : s = u
    · refine ⟨[], lstC (tX T) n (tX T u), by rw [z]; rfl, ⟨fun t ht => (by cases ht), fun _ => by rw [z]; simp⟩, by rw [z]; exact Nat.le_refl _⟩
    · have hs' := (List.mem_cons.mp hs).resolve_left z
      rcases (hX u h3).2 with y | ⟨v, y, y1, y2⟩
      · rw [y] at hs'
        cases n with
        | zero => cases hs'
        | succ n =>
          rw [lstC, if_pos rfl] at hs'
          cases hs'
      · rw [y] at hs' ⊢
        obtain ⟨pre, post, p1, ⟨p2, p3⟩, p4⟩ := ih (b0 + 1) v s (by omega) (by omega) y2 hs'
        have q := (hL.2.2.2.1 u v h3.1 y).1
        have lu := lo_le hF hL N u h3.1 (by omega)
        have w : φ u ≤ ψ u := by
          rcases hL.2.2.2.2.2.1 u h3.1 with y | ⟨_, y⟩ | ⟨_, y⟩ <;> omega
        refine ⟨u :: pre, post, by rw [p1]; rfl, ⟨fun t ht => ?_, fun H => ?_⟩, by omega⟩
        · rcases List.mem_cons.mp ht with x | x
          · rw [x]
            exact ⟨by omega, by omega, h3⟩
          · exact p2 t x
        · rw [p3 (fun t ht => H t (List.mem_cons_of_mem _ ht)), q, H u List.mem_cons_self, List.map_cons, List.flatten_cons, List.append_assoc]
/-- a node's size without its repeat -/
theorem its_le (hq : FQ o T m) (h2 : T.1 643 (o + m) ≤ 200) (hits0 : 0 ≤ fits (T.1 625 (o + m)) (fcG o T m).2.2.1 (fcG o T m).2.2.2) (hr : T.1 630 (o + m) = -1 ∨ (0 ≤ T.1 631 (o + m) ∧ (T.1 632 (o + m) = -1 ∨ 0 < T.1 632 (o + m)))) : fits (T.1 625 (o + m)) (fcG o T m).2.2.1 (fcG o T m).2.2.2 ≤ T.1 643 (o + m) := by
  obtain ⟨q1, q2, q3, q4, q5⟩ := hq
  rw [q4] at h2 ⊢
  generalize fits (T.1 625 (o + m)) (fcG o T m).2.2.1 (fcG o T m).2.2.2 = its at hits0 h2 ⊢
  unfold f643 at h2 ⊢
  by_cases r1 : T.1 630 (o + m) = -1
  · rw [if_pos r1] at h2 ⊢
    have := mlC_i its
    omega
  · rw [if_neg r1] at h2 ⊢
    have hr' := hr.resolve_left r1
    by_cases zh : T.1 632 (o + m) = -1
    · rw [if_pos zh] at h2 ⊢
      have a2 : its * 1 ≤ its * (T.1 631 (o + m) + 1) := Int.mul_le_mul_of_nonneg_left (by omega) hits0
      have i1 := mlC_i (its * (T.1 631 (o + m) + 1) + 2)
      omega
    · rw [if_neg zh] at h2 ⊢
      have a2 : (its + 1) * 1 ≤ (its + 1) * T.1 632 (o + m) := Int.mul_le_mul_of_nonneg_left (by omega) (by omega)
      have i1 := mlC_i ((its + 1) * T.1 632 (o + m))
      omega
theorem sum_app {F : Nat → Int} (a b : List Nat) : ((a ++ b).map F).sum = (a.map F).sum + (b.map F).sum := by
  rw [List.map_append, List.sum_append]
/-- the code as it is stored -/
def StQ (φ ψ : Nat → Nat) (T S0 : ev_St) (CI : Nat → List INS) (t : Nat) : List INS := if S0.1 229 (ψ t) ≠ 0 then [] else if tK T t = 18 ∧ tX T t ≠ -1 then (ins 3 (((CI t).length : Int) + 2) :: CI t) ++ [ins 2 0] else CI t
theorem pre_len {S0 : ev_St} {F : Nat → Int} : ∀ (l : List Nat), (∀ t, t ∈ l → ((CI t).length : Int) ≤ F t) → (((l.map (StQ φ ψ T S0 CI)).flatten.length : Nat) : Int) ≤ (l.map F).sum + (if ∃ t, t ∈ l ∧ tK T t = 18 then 2 * (l.length : Int) else 0)
  | [], _ => by simp
  | u :: l, h => by
    have q := pre_len (S0 := S0) (F := F) l (fun t ht => h t (List.mem_cons_of_mem _ ht))
    have hu := h u List.mem_cons_self
    rw [List.map_cons, List.flatten_cons, List.length_append, List.map_cons, List.sum_cons, List.length_cons, Int.natCast_add]
    have su : (((StQ φ ψ T S0 CI u).length : Nat) : Int) ≤ F u + (if tK T u = 18 then 2 else 0) := by
      unfold StQ
      split
      · show ((0 : Nat) : Int) ≤ _
        split <;> omega
      · split
        · rename_i z
          rw [if_pos z.1, List.length_append, List.length_cons]
          show (((CI u).length + 1 + 1 : Nat) : Int) ≤ _
          omega
        · split <;> omega
    by_cases z : ∃ t, t ∈ l ∧ tK T t = 18
    · obtain ⟨t, z1, z2⟩ := z
      rw [if_pos ⟨t, z1, z2⟩] at q
      rw [if_pos ⟨t, List.mem_cons_of_mem _ z1, z2⟩]
      split at su <;> omega
    · rw [if_neg z] at q
      by_cases y : tK T u = 18
      · rw [if_pos y] at su
        rw [if_pos ⟨u, List.mem_cons_self, y⟩]
        omega
      · rw [if_neg y] at su
        rw [if_neg (fun ⟨t, w1, w2⟩ => by
          rcases List.mem_cons.mp w1 with x | x
          · exact y (by rw [← x]; exact w2)
          · exact z ⟨t, x, w2⟩)]
        omega
theorem BU_all {S0 : ev_St} (hF : FINX k N M φ ψ own up S (sft p T)) (hL : LOf N M φ ψ up lo (sft p T)) (hq : ∀ m, m < N → FQ (320 * p) T m) (hok : ∀ m, m < N → okR (320 * p + m) T) (hC : CDQ k N φ S (sft p T) CA CI) (hv : NVI k N φ ψ up (sft p T) 0 S0) (h0 : Lt 0 = []) (hr : T.1 643 (320 * p) ≤ 200) : ∀ n m, m ≤ n → m < N → S0.1 229 (ψ m) = 0 → (∀ s, s < N → s ≠ 0 → ψ s < lo m → Lt (ψ s + 1) = Lt (lo s) ++ StQ φ ψ (sft p T) S0 CI s) → ((Lt (lo m)).length : Int) + T.1 643 (320 * p + m) ≤ 200 := fun n => by
  have h := TREE_of hF
  have hB := TB_of hF
  have sz := fun m hm => SZ_all hF hq hok hC N m hm (by omega)
  induction n with
  | zero =>
    intro m h1 hm hn hs
    have e : m = 0 := by omega
    rw [e, hL.1.1, h0]
    show ((0 : Nat) : Int) + T.1 643 (320 * p + 0) ≤ 200
    rw [Nat.add_zero]
    omega
  | succ n ih =>
    intro m h1 hm hn hs
    by_cases e0 : m = 0
    · rw [e0, hL.1.1, h0]
      show ((0 : Nat) : Int) + T.1 643 (320 * p + 0) ≤ 200
      rw [Nat.add_zero]
      omega
    · obtain ⟨u, hu⟩ : ∃ u, u = up m := ⟨_, rfl⟩
      have uN : u < N := by rw [hu]; exact hF.1.2.1.1.1 m hm
      have um : u < m := UP_lt hF hm e0 hu.symm
      have eX : tX (sft p T) = fun t => T.1 627 (320 * p + t) := funext fun t => sft_1 (by omega) (by omega)
      have eC : tC (sft p T) u = T.1 626 (320 * p + u) := sft_1 (by omega) (by omega)
      have eK : tK (sft p T) u = T.1 625 (320 * p + u) := sft_1 (by omega) (by omega)
      have eR : tR (sft p T) u = T.1 630 (320 * p + u) := sft_1 (by omega) (by omega)
      have eL : tL (sft p T) u = T.1 631 (320 * p + u) := sft_1 (by omega) (by omega)
      have eH : tH (sft p T) u = T.1 632 (320 * p + u) := sft_1 (by omega) (by omega)
      -- the parent is written too
      have nAu : S0.1 229 (φ u) = 0 := by
        have q := ((hv.1 m hm e0).1 (Nat.zero_le _))
        rw [← hu] at q
        exact Classical.byContradiction fun z => (q.mpr z) hn
      have nIu : S0.1 229 (ψ u) = 0 ∧ (T.1 630 (320 * p + u) = -1 ∨ (0 ≤ T.1 631 (320 * p + u) ∧ (T.1 632 (320 * p + u) = -1 ∨ 0 < T.1 632 (320 * p + u)))) := by
        obtain ⟨_, r2, _⟩ := hok u uN
        rcases h.2.2.2.2.2.2.2.2 u uN with ⟨z, z1⟩ | ⟨⟨z, _⟩, _⟩ | ⟨⟨z, _⟩, _⟩
        · refine ⟨by rw [z1]; exact nAu, Or.inl ?_⟩
          rw [← eR]
          exact z
        · have q := (hv.2.1 u uN z).1 (Nat.zero_le _)
          have nn : ¬ (S0.1 229 (ψ u) ≠ 0 ∨ tH (sft p T) u = 0) := fun w => (q.mpr w) nAu
          have bv := FINX_r hF uN (by
            have z' : tR (sft p T) u = 0 ∨ tR (sft p T) u = 1 := z
            omega)
          rw [eL, eH] at bv
          rw [eH] at nn
          exact ⟨Classical.byContradiction fun w => nn (Or.inl w), Or.inr ⟨bv.1.1, by omega⟩⟩
        · have z' : tR (sft p T) u = 2 := z
          rw [eR] at z'
          exact absurd z' r2
      have km : Kid N up (sft p T) u m := ⟨hm, e0, hu.symm, PAR hF m m (Nat.le_refl _) hm e0 hu.symm⟩
      have mem := kid_in hF uN m m (Nat.le_refl _) km
      rcases Kid_C h uN with z | ⟨c, z, z1, z2⟩
      · rw [z, lstC, if_pos rfl] at mem
        cases mem
      · have lc := (hL.2.2.1 u c uN z).1
        rw [z] at mem
        obtain ⟨pre, post, p1, ⟨p2, p3⟩, p4⟩ := pre_of (Lt := Lt) (St := StQ φ ψ (sft p T) S0 CI) hF hL uN 320 0 c m (by have := hF.2.1.2.2.2; omega) (by omega) z2 mem
        have p3 := p3 (fun t ht => hs t (p2 t ht).2.2.1 (p2 t ht).2.2.2.1 (p2 t ht).1)
        rw [lc] at p3 p4
        have bu := ih u (by omega) uN nIu.1 (fun s s1 s2 s3 => hs s s1 s2 (by omega))
        -- sizes
        obtain ⟨b1, b2, b3, b4⟩ := fcG_b hB uN (fun t a c => (hq t c).2.2.2.2)
        have its0 : 0 ≤ fits (T.1 625 (320 * p + u)) (fcG (320 * p) T u).2.2.1 (fcG (320 * p) T u).2.2.2 := by
          unfold fits
          (repeat' split) <;> omega
        have il := its_le (hq u uN) (by omega) its0 nIu.2
        have gs : (fcG (320 * p) T u).2.2.1 = ((pre ++ m :: post).map fun t => T.1 643 (320 * p + t)).sum ∧ (fcG (320 * p) T u).2.2.2 = ((pre ++ m :: post).length : Int) := by
          rw [← p1, ← z, eX, eC]
          unfold fcG
          rw [chl_lst]
          have q := fcR_sum (o := 320 * p) (T := T) (lstC (fun t => T.1 627 (320 * p + t)) 320 (T.1 626 (320 * p + u))) (-1, 0, 0, 0)
          refine ⟨q.1.trans ?_, q.2.trans ?_⟩
          · show (0 : Int) + _ = _
            omega
          · show (0 : Int) + _ = _
            omega
        have kidm : ∀ t, t ∈ pre ++ m :: post → Kid N up (sft p T) u t := fun t ht => lst_mb (Kid_X h) 320 0 _ (Kid_C h uN) t (by rw [z, p1]; exact ht)
        have nn : ∀ t, t ∈ pre ++ m :: post → 0 ≤ T.1 643 (320 * p + t) := fun t ht => (hq t (kidm t ht).1).2.2.2.2.2.2.2.1
        have sl := sum_le (F := fun t => T.1 643 (320 * p + t)) (pre ++ m :: post) nn
        have sp' := sum_le (F := fun t => T.1 643 (320 * p + t)) post (fun t ht => nn t (List.mem_append_right _ (List.mem_cons_of_mem _ ht)))
        rw [sum_app, List.map_cons, List.sum_cons, List.length_append, List.length_cons] at gs
        have sbl : (fcG (320 * p) T u).2.2.1 ≤ fits (T.1 625 (320 * p + u)) (fcG (320 * p) T u).2.2.1 (fcG (320 * p) T u).2.2.2 ∧ (tK (sft p T) u ≠ 18 → (fcG (320 * p) T u).2.2.1 + 2 * ((fcG (320 * p) T u).2.2.2 - 1) ≤ fits (T.1 625 (320 * p + u)) (fcG (320 * p) T u).2.2.1 (fcG (320 * p) T u).2.2.2) := by
          have hc : T.1 626 (320 * p + u) ≠ -1 := by
            rw [← eC, z]
            omega
          have k8 : T.1 625 (320 * p + u) = 18 ∨ (8 ≤ T.1 625 (320 * p + u) ∧ T.1 625 (320 * p + u) ≤ 13) := by
            have q := (hF.1.2.2.2.1.2 u uN).2.2.2
            rw [show (sft p T).1 625 (3840 + u) = T.1 625 (320 * p + u) from eK, show (sft p T).1 626 (3840 + u) = T.1 626 (320 * p + u) from eC] at q
            by_cases y : T.1 625 (320 * p + u) = 18
            · exact Or.inl y
            · exact Or.inr ((q y).mp hc)
          rw [eK]
          unfold fits
          rcases k8 with y | y
          · rw [if_pos y]
            exact ⟨Int.le_refl _, fun w => absurd y w⟩
          · rw [if_neg (by omega), if_neg (by omega)]
            have rows1 : 1 ≤ (fcG (320 * p) T u).2.2.2 := by omega
            rw [if_neg (by omega)]
            split <;> omega
        have pl := pre_len (φ := φ) (ψ := ψ) (T := sft p T) (S0 := S0) (CI := CI) (F := fun t => T.1 643 (320 * p + t)) pre (fun t ht => (sz t (kidm t (List.mem_append_left _ ht)).1).2 (by have := sl.2 t (List.mem_append_left _ ht); rw [sum_app, List.map_cons, List.sum_cons] at this; omega))
        rw [p3, List.length_append, Int.natCast_add]
        by_cases k18 : tK (sft p T) u = 18
        · rw [if_neg (fun ⟨t, w1, w2⟩ => ((kidm t (List.mem_append_left _ w1)).2.2.2.mp w2) k18)] at pl
          omega
        · have s2 := sbl.2 k18
          have : (if ∃ t, t ∈ pre ∧ tK (sft p T) t = 18 then 2 * (pre.length : Int) else 0) ≤ 2 * (pre.length : Int) := by split <;> omega
          omega
end PROG8
