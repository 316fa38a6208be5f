/-! FACTS: one node after another is learned -/
section FACTC7
variable {Q k b e N M m t : Nat} {φ ψ own up : Nat → Nat} {W W2 : Nat → FV} {S T U V : ev_St}
def FRL (S U : ev_St) : Prop := (∀ x g, x ≠ 222 → x ≠ 223 → U.1 x g = S.1 x g) ∧ (∀ x g, ¬ (224 ≤ x ∧ x ≤ 227) → U.2.1 x g = S.2.1 x g) ∧ U.2.2 = S.2.2
theorem FRL_n (h : FRL S U) (hn : FRn b U V) : FRL S V := ⟨fun x g a c => (hn.1 x g (by omega)).trans (h.1 x g a c), fun x g a => (hn.2.2 x g (by omega)).trans (h.2.1 x g a), hn.2.1.trans h.2.2⟩
theorem kcl_i {c f : Int} (h : 0 ≤ c ∧ c ≤ 18) : (c = 0 → kcl c f = 0) ∧ (1 ≤ c ∧ c ≤ 6 → 1 ≤ kcl c f ∧ kcl c f ≤ 6) ∧ (c = 7 → kcl c f = 7) ∧ (c = 14 → kcl c f = 9) ∧ (15 ≤ c ∧ c ≤ 17 → 10 ≤ kcl c f ∧ kcl c f ≤ 12) ∧ (c = 18 → kcl c f = 15) ∧ (8 ≤ c ∧ c ≤ 13 → (16 ≤ kcl c f ∨ kcl c f = 8) ∧ (kcl c f = 18 ↔ c = 8)) := by
  have hc : c = 0 ∨ c = 1 ∨ c = 2 ∨ c = 3 ∨ c = 4 ∨ c = 5 ∨ c = 6 ∨ c = 7 ∨ c = 8 ∨ c = 9 ∨ c = 10 ∨ c = 11 ∨ c = 12 ∨ c = 13 ∨ c = 14 ∨ c = 15 ∨ c = 16 ∨ c = 17 ∨ c = 18 := by omega
  rcases hc with z | z | z | z | z | z | z | z | z | z | z | z | z | z | z | z | z | z | z <;> subst z <;> by_cases y : f = 0 <;> simp [kcl, y]
theorem fcv_0 : fcv 0 := ⟨by decide, by decide⟩
theorem fcv_1 : fcv 1 := ⟨by decide, by decide⟩
theorem chl_one {α : Type} {F : α → Nat → α} {a : α} : chl (fun _ => -1) F 320 0 a = F a 0 := by
  rw [show (320 : Nat) = 318 + 1 + 1 from rfl, chl, if_neg (by decide), chl, if_pos rfl]
  rfl
theorem mb_one : mbX 1 (fun _ => -1) (fun t => t = 0) := fun t ht => ⟨by omega, Or.inl rfl⟩
theorem partE_b {K : Int} {v : Int × FV} (h : fcv v.2.1 ∧ 0 ≤ v.2.2.1) : fcv (partE K v).1 ∧ fcv (partE K v).2.1 := by
  refine ⟨?_, mlC_b h.2⟩
  show fcv (if 20 ≤ K ∨ (K = 8 ∧ v.1 < 2) then 0 else v.2.1)
  split
  · exact ⟨by decide, by decide⟩
  · exact h.1
theorem repF_b {lo hi : Int} {w : FV} (rlo : 0 ≤ lo) (rhi : -1 ≤ hi) (h : fcv w.1 ∧ fcv w.2.1) : fcv (repF lo hi w).1 ∧ fcv (repF lo hi w).2.1 := by
  refine ⟨mlC_b (Int.mul_nonneg h.1.1 rlo), mlC_b ?_⟩
  have := h.2.1
  split
  · have := Int.mul_nonneg h.2.1 (show 0 ≤ lo + 1 by omega)
    omega
  · exact Int.mul_nonneg (by omega) (by omega)
theorem TREE_2 (h : TREE k N M φ ψ own up S T) (hm : m < N) (hr : tR T m = 2) : ∃ x y : Nat, S.1 (k + 4) (ψ m) = (x : Int) ∧ S.1 (k + 4) x = (y : Int) := by
  have hr' : T.1 630 (3840 + m) = 2 := hr
  rcases h.2.2.2.2.2.2.2.2 m hm with ⟨z, _⟩ | ⟨⟨z, _⟩, _⟩ | ⟨_, x', y', _, ⟨z7, z8⟩, ⟨z9, z10, z11⟩, _⟩
  · omega
  · omega
  · exact ⟨x', y', z8, z10⟩
/-- an item's repeat, what is told of the numbers -/
theorem FINX_r (hF : FINX k N M φ ψ own up S T) (hm : m < N) (hr : tR T m ≠ -1) : (0 ≤ tL T m ∧ tL T m ≤ 20) ∧ (-1 ≤ tH T m ∧ tH T m ≤ 20) := by
  have q := (hF.1.2.2.2.1.1 m hm).2.1 hr
  exact ⟨q.1, q.2.1⟩
theorem FINX_K (hF : FINX k N M φ ψ own up S T) (hm : m < N) : (0 ≤ tK T m ∧ tK T m ≤ 18) ∧ ((m = 0 ∧ tK T m = 9 ∧ S.1 (k + 1) (φ m) = 16) ∨ (m ≠ 0 ∧ S.1 (k + 1) (φ m) = kcl (tK T m) (T.1 629 (3840 + m)))) := by
  refine ⟨(hF.1.2.2.2.1.1 m hm).1.1, ?_⟩
  by_cases e : m = 0
  · subst e
    exact Or.inl ⟨rfl, hF.1.1.2.2.2.1, hF.1.1.2.1.2.2.2.1⟩
  · exact Or.inr ⟨e, (hF.1.1.1 m hm e).2.1.1⟩
theorem learn_b (hF : FINX k N M φ ψ own up S T) (hk : ev_isOb k 5 = true) (hkr : 232 ≤ k) (hQ : 400 ≤ Q) (hb : b < M) (hU : FRL S U) (hr : S.2.2.1 221 9 = k + 1) (hw : WQ k N M φ ψ S T (val U) b) : ∃ V, jm_31 Q (b : Int) U = some ((), V) ∧ FRn b U V ∧ WQ k N M φ ψ S T (val V) (b + 1) := by
  have h := TREE_of hF
  obtain ⟨l1, l2, l3, l4, l5, _, _, l8, l9⟩ := al_Pt hk
  have hM : M ≤ 400 := hF.2.1.2.1
  have hN : N ≤ 320 := hF.2.1.2.2.2
  have kM : U.1 k 11 = (M : Int) := by rw [hU.1 _ _ (by omega) (by omega)]; exact hF.2.1.1
  have hrU : U.2.2.1 221 9 = k + 1 := by rw [hU.2.2]; exact hr
  have uS : ∀ j g, U.1 (k + j) g = S.1 (k + j) g := fun j g => hU.1 _ _ (by omega) (by omega)
  obtain ⟨m, hmE⟩ : ∃ m, m = own b := ⟨_, rfl⟩
  obtain ⟨hm, hb'⟩ := h.2.2.2.2.2.2.1 b hb
  rw [← hmE] at hm hb'
  have uφ : ∀ m', m' < N → φ m' = b → m' = m := fun m' h' e => by rw [hmE, ← e]; exact (h.1 m' h').2.2.1.symm
  have uψ : ∀ m', m' < N → ψ m' = b → m' = m := fun m' h' e => by rw [hmE, ← e]; exact (h.1 m' h').2.2.2.symm
  by_cases c1 : b = φ m
  · -- an atom, or a row
    have vac2 : ∀ m', m' < N → ψ m' = b → (tR T m' = 0 ∨ tR T m' = 1) → False := fun m' h' e hr' => by
      have q := (TREE_r h h').1 hr'
      rw [uψ m' h' e] at q e
      omega
    have vac3 : ∀ m', m' < N → tR T m' = 2 → ∀ x y : Nat, S.1 (k + 4) (ψ m') = (x : Int) → S.1 (k + 4) x = (y : Int) → y ≠ b ∧ x ≠ b ∧ ψ m' ≠ b := fun m' h' hr' x y hx hy => by
      obtain ⟨q1, q2, q3, q4, q5, _⟩ := (TREE_r h h').2 hr' x y hx hy
      refine ⟨fun e => ?_, fun e => ?_, fun e => ?_⟩
      · have : m' = m := by rw [hmE, ← e, q5]
        rw [this] at q1
        omega
      · have : m' = m := by rw [hmE, ← e, q4]
        rw [this] at q1
        omega
      · rw [uψ m' h' e] at q1 q3 e
        omega
    have fin : ∀ V, jm_31 Q (b : Int) U = some ((), V) → FRn b U V → (fcv (val V b).1 ∧ fcv (val V b).2.1) → EQa k φ ψ S T (val V) m → ∃ V, jm_31 Q (b : Int) U = some ((), V) ∧ FRn b U V ∧ WQ k N M φ ψ S T (val V) (b + 1) := fun V a1 a2 a3 a4 => ⟨V, a1, a2, WQ_s h hw (fun e he => val_c a2 (by omega)) a3 (fun m' h' e => by rw [uφ m' h' e]; exact a4) (fun m' h' e hr' => absurd (vac2 m' h' e hr') (fun z => z)) (fun m' h' hr' x y hx hy => ⟨fun e => absurd e (vac3 m' h' hr' x y hx hy).1, fun e => absurd e (vac3 m' h' hr' x y hx hy).2.1, fun e => absurd e (vac3 m' h' hr' x y hx hy).2.2⟩)⟩
    obtain ⟨kr, kk⟩ := FINX_K hF hm
    have ki := kcl_i (c := tK T m) (f := T.1 629 (3840 + m)) kr
    have kb : U.1 (k + 1) b = S.1 (k + 1) (φ m) := by rw [uS, c1]
    have kidb : ∀ t, Kid N up T m t → ψ t < b ∧ ψ t < M := fun t ht => by
      have q := h.2.2.2.2.2.1 t ht.1 ht.2.1
      rw [ht.2.2.1] at q
      exact ⟨by omega, (h.1 t ht.1).2.1⟩
    have k9 : ∀ {x : Int}, x = tK T m → x ≠ 9 → m ≠ 0 ∧ S.1 (k + 1) (φ m) = kcl (tK T m) (T.1 629 (3840 + m)) := fun {x} e hx => by
      rcases kk with ⟨_, z, _⟩ | z
      · exact absurd (e.trans z) hx
      · exact z
    obtain ⟨K, hK⟩ : ∃ K, K = tK T m := ⟨_, rfl⟩
    rw [← hK] at kr
    by_cases z0 : K = 0
    · have e1 := (k9 hK (by omega)).2
      obtain ⟨V, a1, a2, a3⟩ := L31_0 (Q := Q) (b := b) hrU hkr (by omega) ⟨l1, l8, l9⟩ (by rw [kb, e1]; exact ki.1 (by omega))
      have ev := val_of a3
      rw [hU.2.1 _ _ (by omega), hU.2.1 _ _ (by omega)] at ev
      refine fin V a1 a2 (by rw [ev]; exact ⟨fcv_1, fcv_1⟩) ⟨fun _ => ?_, fun z => by omega, fun z => by omega, fun z => by omega, fun z => by omega, fun z => by omega⟩
      rw [← c1]
      exact ev
    by_cases z1 : 1 ≤ K ∧ K ≤ 6
    · have e1 := (k9 hK (by omega)).2
      obtain ⟨V, a1, a2, a3⟩ := L31_1 (Q := Q) (b := b) hrU hkr (by omega) l1 (by rw [kb, e1]; exact ki.2.1 (by omega))
      have ev := val_of a3
      refine fin V a1 a2 (by rw [ev]; exact ⟨fcv_0, fcv_1⟩) ⟨fun z => by omega, fun _ => ?_, fun z => by omega, fun z => by omega, fun z => by omega, fun z => by omega⟩
      rw [← c1]
      exact ev
    by_cases z7 : K = 7 ∨ K = 14
    · have e1 := (k9 hK (by omega)).2
      obtain ⟨V, a1, a2, a3⟩ := L31_7 (Q := Q) (b := b) hrU hkr (by omega) l1 (by
        rw [kb, e1]
        rcases z7 with z | z
        · exact Or.inl (ki.2.2.1 (by omega))
        · exact Or.inr (ki.2.2.2.1 (by omega)))
      have ev := val_of a3
      refine fin V a1 a2 (by rw [ev]; exact ⟨fcv_0, fcv_0⟩) ⟨fun z => by omega, fun z => by omega, fun _ => ?_, fun z => by omega, fun z => by omega, fun z => by omega⟩
      rw [← c1]
      exact ev
    by_cases z15 : 15 ≤ K ∧ K ≤ 17
    · have e1 := (k9 hK (by omega)).2
      obtain ⟨V, a1, a2, a3⟩ := L31_x (Q := Q) (b := b) hrU hkr (by omega) l1 (by rw [kb, e1]; exact ki.2.2.2.2.1 (by omega))
      have ev := val_of a3
      refine fin V a1 a2 (by rw [ev]; exact ⟨fcv_0, fcv_0⟩) ⟨fun z => by omega, fun z => by omega, fun z => by omega, fun _ => ?_, fun z => by omega, fun z => by omega⟩
      rw [← c1]
      exact ev
    by_cases z18 : K = 18
    · have e1 := (k9 hK (by omega)).2
      have k18 : tK T m = 18 := by omega
      obtain ⟨V, a1, a2, a3, a4⟩ := L31_row (Q := Q) (b := b) (X := tX T) (f := ψ) (Mb := Kid N up T m) (W := fun t => val U (ψ t)) (c := tC T m) hrU hkr hQ ⟨l1, l4⟩ (by rw [kb, e1]; exact ki.2.2.2.2.2.1 k18) (Kid_X h) hN (Kid_C h hm) (by rw [uS, c1]; exact (h.2.1 m hm).1 k18) ⟨Or.inr ⟨hrU, l5, hkr⟩, fun t ht => ⟨val_V, hw.1 _ (kidb t ht).1, by rw [uS]; exact (h.2.2.1 t ht.1 ht.2.1).1 (fun y => (ht.2.2.2.mp y) k18), by rw [kM]; have := (kidb t ht).2; omega, by have := (kidb t ht).2; omega, by have := (kidb t ht).1; omega⟩⟩ (by omega)
      have ev := val_of a3
      refine fin V a1 a2 (by rw [ev]; exact a4) ⟨fun z => by omega, fun z => by omega, fun z => by omega, fun z => by omega, fun _ => ?_, fun z => by omega⟩
      rw [← c1, ev]
      exact chl_mem (Kid_X h (m := m)) (fun a b => a = b) (fun a a' t ht ha => by rw [val_c a2 (by have := (kidb t ht).1; omega), ha]) 320 0 _ _ _ (Kid_C h hm) rfl
    · have k8 : 8 ≤ tK T m ∧ tK T m ≤ 13 := by omega
      have e1 : 16 ≤ S.1 (k + 1) (φ m) ∨ S.1 (k + 1) (φ m) = 8 := by
        rcases kk with ⟨_, _, z⟩ | ⟨_, z⟩
        · omega
        · rw [z]
          exact (ki.2.2.2.2.2.2 k8).1
      have kp : ∀ t, Kid N up T m t → φ t = ψ t ∧ tK T t = 18 := fun t ht => by
        have k18 : tK T t = 18 := ht.2.2.2.mpr (by omega)
        exact ⟨((h.2.2.1 t ht.1 ht.2.1).2 k18).2, k18⟩
      obtain ⟨V, a1, a2, a3, a4⟩ := L31_part (Q := Q) (b := b) (K := S.1 (k + 1) (φ m)) (X := tX T) (f := φ) (Mb := Kid N up T m) (W := fun t => val U (φ t)) (c := tC T m) hrU hkr hQ ⟨l1, l4⟩ kb e1 (Kid_X h) hN (Kid_C h hm) (by rw [uS, c1]; exact (h.2.1 m hm).2 (by omega)) ⟨Or.inr ⟨hrU, l5, hkr⟩, fun t ht => ⟨val_V, by show fcv (val U (φ t)).1 ∧ fcv (val U (φ t)).2.1; rw [(kp t ht).1]; exact hw.1 _ (kidb t ht).1, by rw [uS]; exact ((h.2.2.1 t ht.1 ht.2.1).2 (kp t ht).2).1, by rw [kM, (kp t ht).1]; have := (kidb t ht).2; omega, by rw [(kp t ht).1]; have := (kidb t ht).2; omega, by rw [(kp t ht).1]; have := (kidb t ht).1; omega⟩⟩ (by omega)
      have ev := val_of a3
      refine fin V a1 a2 (by rw [ev]; exact partE_b a4) ⟨fun z => by omega, fun z => by omega, fun z => by omega, fun z => by omega, fun z => by omega, fun _ => ?_⟩
      rw [← c1, ev, c1]
      refine congrArg _ (chl_mem (Kid_X h (m := m)) (fun a b => a = b) (fun a a' t ht ha => ?_) 320 0 _ _ _ (Kid_C h hm) rfl)
      rw [val_c a2 (by rw [(kp t ht).1]; have := (kidb t ht).1; omega), ha]
  · -- a repeat, or what stands around one
    have c1' : ∀ m', m' < N → φ m' ≠ b := fun m' h' e => c1 (by rw [← uφ m' h' e]; exact e.symm)
    have R1 : tR T m ≠ -1 := fun z => by
      have z' : T.1 630 (3840 + m) = -1 := z
      rcases hb' with y | y | y
      · exact c1 y
      · rcases h.2.2.2.2.2.2.2.2 m hm with ⟨_, x⟩ | ⟨⟨x, _⟩, _⟩ | ⟨⟨x, _⟩, _⟩
        · exact c1 (by rw [← x]; exact y)
        · omega
        · omega
      · have := y.1
        omega
    obtain ⟨rl, rh⟩ := FINX_r hF hm R1
    have hM0 := (h.1 m hm).1
    by_cases r2 : tR T m = 2
    · obtain ⟨x, y, hx, hy⟩ := TREE_2 h hm r2
      obtain ⟨q1, q2, q3, q4, q5, q6, q7, q8, q9, q10, q11, q12, q13⟩ := (TREE_r h hm).2 r2 x y hx hy
      have hMψ := (h.1 m hm).2.1
      have fin : ∀ V, jm_31 Q (b : Int) U = some ((), V) → FRn b U V → (fcv (val V b).1 ∧ fcv (val V b).2.1) → ((y = b → val V b = repF (tL T m) (tH T m) (val V (φ m))) ∧ (x = b → val V b = row1 (val V y)) ∧ (ψ m = b → val V b = part1 (val V x))) → ∃ V, jm_31 Q (b : Int) U = some ((), V) ∧ FRn b U V ∧ WQ k N M φ ψ S T (val V) (b + 1) := fun V a1 a2 a3 a4 => ⟨V, a1, a2, WQ_s h hw (fun e he => val_c a2 (by omega)) a3 (fun m' h' e => absurd e (c1' m' h')) (fun m' h' e hr' => by rw [uψ m' h' e] at hr'; omega) (fun m' h' hr' x' y' hx' hy' => by
        obtain ⟨p1, p2, p3, p4, p5, _⟩ := (TREE_r h h').2 hr' x' y' hx' hy'
        have same : m' = m → x' = x ∧ y' = y := fun e => by
          rw [e] at hx'
          obtain rfl : x' = x := by omega
          exact ⟨rfl, by omega⟩
        refine ⟨fun e => ?_, fun e => ?_, fun e => ?_⟩
        · have em : m' = m := by rw [hmE, ← e, p5]
          obtain ⟨_, ey⟩ := same em
          rw [em]
          exact a4.1 (by omega)
        · have em : m' = m := by rw [hmE, ← e, p4]
          obtain ⟨ex, ey⟩ := same em
          rw [ey]
          exact a4.2.1 (by omega)
        · have em := uψ m' h' e
          obtain ⟨ex, ey⟩ := same em
          rw [ex]
          exact a4.2.2 (by rw [← em]; exact e))⟩
      have hbc : b = ψ m ∨ b = x ∨ b = y := by
        rcases hb' with z | z | ⟨_, z | ⟨x', z, z'⟩⟩
        · exact absurd z c1
        · exact Or.inl z
        · exact Or.inr (Or.inl (by omega))
        · obtain rfl : x' = x := by omega
          exact Or.inr (Or.inr (by omega))
      rcases hbc with z | z | z
      · obtain ⟨V, a1, a2, a3, a4⟩ := L31_part (Q := Q) (b := b) (K := 19) (N := 1) (X := fun _ => -1) (f := fun _ => x) (Mb := fun t => t = 0) (W := fun _ => val U x) (c := 0) hrU hkr hQ ⟨l1, l4⟩ (by rw [uS, z]; exact q6) (Or.inl (by decide)) mb_one (by omega) (Or.inr ⟨0, rfl, by omega, rfl⟩) (by rw [uS, z]; exact hx) ⟨Or.inr ⟨hrU, l5, hkr⟩, fun t ht => ⟨val_V, hw.1 x (by omega), by rw [uS]; exact q8, by rw [kM]; show (x : Int) < M; omega, by show x < 400; omega, by show x ≠ b; omega⟩⟩ (by omega)
        rw [chl_one] at a3 a4
        have ev := val_of a3
        refine fin V a1 a2 (by rw [ev]; exact partE_b a4) ⟨fun e => by omega, fun e => by omega, fun _ => ?_⟩
        rw [ev, val_c a2 (by omega)]
        rfl
      · obtain ⟨V, a1, a2, a3, a4⟩ := L31_row (Q := Q) (b := b) (N := 1) (X := fun _ => -1) (f := fun _ => y) (Mb := fun t => t = 0) (W := fun _ => val U y) (c := 0) hrU hkr hQ ⟨l1, l4⟩ (by rw [uS, z]; exact q7) mb_one (by omega) (Or.inr ⟨0, rfl, by omega, rfl⟩) (by rw [uS, z]; exact hy) ⟨Or.inr ⟨hrU, l5, hkr⟩, fun t ht => ⟨val_V, hw.1 y (by omega), by rw [uS]; exact q13, by rw [kM]; show (y : Int) < M; omega, by show y < 400; omega, by show y ≠ b; omega⟩⟩ (by omega)
        rw [chl_one] at a3 a4
        have ev := val_of a3
        refine fin V a1 a2 (by rw [ev]; exact a4) ⟨fun e => by omega, fun _ => ?_, fun e => by omega⟩
        rw [ev, val_c a2 (by omega)]
        rfl
      · obtain ⟨V, a1, a2, a3⟩ := L31_r (Q := Q) (b := b) (e := φ m) (w := val U (φ m)) (lo := tL T m) (hi := tH T m) hrU hkr ⟨l1, l2, l3, l4⟩ (by rw [uS, z]; exact Or.inl q9) (by rw [uS, z]; exact q10) (by rw [uS, z]; exact q11) (by rw [uS, z]; exact q12) rl rh (by rw [kM]; omega) (by omega) (by omega) (by omega) val_V (hw.1 _ (by omega))
        have ev := val_of a3
        refine fin V a1 a2 (by rw [ev]; exact repF_b rl.1 rh.1 (hw.1 _ (by omega))) ⟨fun _ => ?_, fun e => by omega, fun e => by omega⟩
        rw [ev, val_c a2 (by omega)]
    · have hr01 : (tR T m = 0 ∨ tR T m = 1) ∧ S.1 (k + 1) (ψ m) = 13 + tR T m ∧ S.1 (k + 4) (ψ m) = (φ m : Int) ∧ S.1 (k + 2) (ψ m) = tL T m ∧ S.1 (k + 3) (ψ m) = tH T m := by
        rcases h.2.2.2.2.2.2.2.2 m hm with ⟨z, _⟩ | ⟨⟨z, _⟩, z2, z3, z4, z5, _⟩ | ⟨⟨z, _⟩, _⟩
        · exact absurd z R1
        · exact ⟨z, z2, z3, z4, z5⟩
        · exact absurd z r2
      obtain ⟨r01, p1, p2, p3, p4⟩ := hr01
      have bψ : b = ψ m := by
        rcases hb' with z | z | z
        · exact absurd z c1
        · exact z
        · exact absurd z.1 r2
      have lt := (TREE_r h hm).1 r01
      obtain ⟨V, a1, a2, a3⟩ := L31_r (Q := Q) (b := b) (e := φ m) (w := val U (φ m)) (lo := tL T m) (hi := tH T m) hrU hkr ⟨l1, l2, l3, l4⟩ (by rw [uS, bψ, p1]; omega) (by rw [uS, bψ]; exact p2) (by rw [uS, bψ]; exact p3) (by rw [uS, bψ]; exact p4) rl rh (by rw [kM]; omega) (by omega) (by omega) (by omega) val_V (hw.1 _ (by omega))
      have ev := val_of a3
      refine ⟨V, a1, a2, WQ_s h hw (fun e he => val_c a2 (by omega)) (by rw [ev]; exact repF_b rl.1 rh.1 (hw.1 _ (by omega))) (fun m' h' e => absurd e (c1' m' h')) (fun m' h' e hr' => ?_) (fun m' h' hr' x' y' hx' hy' => ?_)⟩
      · rw [uψ m' h' e, ev, val_c a2 (by omega)]
      · obtain ⟨p1, p2, p3, p4, p5, _⟩ := (TREE_r h h').2 hr' x' y' hx' hy'
        have no : m' = m → False := fun e => by
          rw [e] at hr'
          exact r2 hr'
        exact ⟨fun e => absurd (by rw [hmE, ← e, p5] : m' = m) no, fun e => absurd (by rw [hmE, ← e, p4] : m' = m) no, fun e => absurd (uψ m' h' e) no⟩
end FACTC7
