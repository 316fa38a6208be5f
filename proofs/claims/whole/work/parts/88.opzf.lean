/-! SEARCH: points where both machines meet -/
section OPZF
variable {Q k p N M m n n2 h h2 us us2 vs vs2 ls ls2 w len x0 x y u v g a b j : Nat} {C : Int} {φ ψ own up lo : Nat → Nat} {S S1 S2 T T1 T2 U : ev_St} {V : Nat → Nat → Nat → List KT → Nat → Int} {ks : List KT} {κ : KT}
def bxK (p : Nat) (U : ev_St) (m : Nat) : Int := if U.1 627 (320 * p + m) = -1 then 0 else 2
def nxK (p : Nat) (U : ev_St) (ks : List KT) (m : Nat) : List KT := if U.1 627 (320 * p + m) = -1 then ks else (1, (U.1 627 (320 * p + m)).toNat, 0, 0) :: ks
/-- what the potential of the reference's frames has to be -/
def POT (p N : Nat) (U : ev_St) (len : Nat) (V : Nat → Nat → Nat → List KT → Nat → Int) : Prop := (∀ kd m r ks x, 0 ≤ V kd m r ks x) ∧ (∀ m a b ks x, m < N → m ≠ 0 → U.1 625 (320 * p + m) ≠ 18 → bxK p U m + V 1 m 0 (nxK p U ks m) x ≤ V 0 0 0 ((1, m, a, b) :: ks) x) ∧ (∀ m ks x, m < N → m ≠ 0 → U.1 625 (320 * p + m) ≠ 18 → (U.1 630 (320 * p + m) = -1 → V 2 m 0 ks x ≤ V 1 m 0 ks x) ∧ (U.1 630 (320 * p + m) = 0 ∨ U.1 630 (320 * p + m) = 1 → V 6 m 0 ks x ≤ 299 + V 1 m 0 ks x) ∧ (U.1 630 (320 * p + m) = 2 → ∀ a b, 2 + V 6 m 0 ((9, m, a, b) :: ks) x ≤ 598 + V 1 m 0 ks x)) ∧ (∀ (m r : Nat) (ks : List KT) (x : Nat), m < N → U.1 630 (320 * p + m) ≠ -1 → ((r : Int) < U.1 631 (320 * p + m) ∨ U.1 632 (320 * p + m) = -1 ∨ (r : Int) < U.1 632 (320 * p + m) → V 9 m r ks x ≤ V 6 m r ks x) ∧ (U.1 631 (320 * p + m) ≤ (r : Int) → V 0 0 0 ks x ≤ V 6 m r ks x) ∧ 2 + V 2 m 0 ((3, m, r, x) :: ks) x ≤ 299 + V 9 m r ks x ∧ ∀ pl, ¬ (U.1 632 (320 * p + m) = -1 ∧ U.1 631 (320 * p + m) < (r : Int) + 1 ∧ x = pl) → V 6 m (r + 1) ks x ≤ V 0 0 0 ((3, m, r, pl) :: ks) x) ∧ (∀ m ks x, m < N → m ≠ 0 → U.1 625 (320 * p + m) ≠ 18 → (U.1 625 (320 * p + m) = 0 → V 0 0 0 ks (x + 1) ≤ 299 + V 2 m 0 ks x) ∧ ((1 ≤ U.1 625 (320 * p + m) ∧ U.1 625 (320 * p + m) ≤ 6) ∨ 16 ≤ U.1 625 (320 * p + m) ∨ (11 ≤ U.1 625 (320 * p + m) ∧ U.1 625 (320 * p + m) ≤ 13) → V 0 0 0 ks x ≤ 299 + V 2 m 0 ks x) ∧ (U.1 625 (320 * p + m) = 7 → ∀ y, x ≤ y → V 0 0 0 ks y ≤ 299 + V 2 m 0 ks x) ∧ (U.1 625 (320 * p + m) = 8 → 2 + V 3 m 0 ((2, m, x, 0) :: ks) x ≤ V 2 m 0 ks x) ∧ (U.1 625 (320 * p + m) = 9 → V 3 m 0 ((8, m, 0, 0) :: ks) x ≤ V 2 m 0 ks x) ∧ (U.1 625 (320 * p + m) = 10 → ∀ b, 2 + V 3 m 0 ((5, m, x, b) :: ks) x ≤ 299 + V 2 m 0 ks x) ∧ (U.1 625 (320 * p + m) = 11 → ∀ b, 2 + V 3 m 0 ((6, m, x, b) :: ks) x ≤ 299 + V 2 m 0 ks x) ∧ (U.1 625 (320 * p + m) = 12 → ∀ b y, y ≤ x → 2 + V 3 m 0 ((7, m, x, b) :: ks) y ≤ 299 + V 2 m 0 ks x) ∧ (U.1 625 (320 * p + m) = 13 → ∀ r, r = m + 1 ∨ U.1 627 (320 * p + (m + 1)) = (r : Int) → V 7 r 0 ((8, m, 0, 0) :: ks) x ≤ 299 + V 2 m 0 ks x) ∧ (U.1 625 (320 * p + m) = 14 → dOf ks < 20 → ∀ g j : Nat, U.1 628 (320 * p + m) = (j : Int) → U.1 637 (10 * p + j) = (g : Int) → 2 + V 3 g 0 ((4, g, 0, 0) :: ks) x ≤ 299 + V 2 m 0 ks x)) ∧ (∀ m ks x, m < N → 8 ≤ U.1 625 (320 * p + m) ∧ U.1 625 (320 * p + m) ≤ 13 → (U.1 627 (320 * p + (m + 1)) = -1 → V 7 (m + 1) 0 ks x ≤ V 3 m 0 ks x) ∧ (U.1 627 (320 * p + (m + 1)) ≠ -1 → V 8 (m + 1) 0 ks x ≤ V 3 m 0 ks x)) ∧ (∀ r ks x, r < N → U.1 625 (320 * p + r) = 18 → V 7 r 0 ks x ≤ 299 + V 8 r 0 ks x ∧ (∀ t : Nat, U.1 627 (320 * p + r) = (t : Int) → V 8 t 0 ks x ≤ V 8 r 0 ks x) ∧ (U.1 626 (320 * p + r) = -1 → V 0 0 0 ks x ≤ V 7 r 0 ks x) ∧ ∀ t : Nat, U.1 626 (320 * p + r) = (t : Int) → bxK p U t + V 1 t 0 (nxK p U ks t) x ≤ V 7 r 0 ks x) ∧ (∀ κ ks x, (κ.1 = 2 ∨ κ.1 = 4 ∨ κ.1 = 5 ∨ κ.1 = 8 ∨ κ.1 = 9 → V 0 0 0 ks x ≤ V 0 0 0 (κ :: ks) x) ∧ (κ.1 = 6 ∨ κ.1 = 7 → V 0 0 0 ks κ.2.2.1 ≤ V 0 0 0 (κ :: ks) x))
/-- a point where both meet: the class is to do the code c, the reference what td says -/
def RLC (k p N : Nat) (φ ψ own up lo : Nat → Nat) (U : ev_St) (w len x0 : Nat) (C : Int) (V : Nat → Nat → Nat → List KT → Nat → Int) (S T : ev_St) (ks : List KT) (x n us h vs ls : Nat) (c td : Int) (a : Nat) (vv : Int) : Prop := COR k p N φ ψ own up lo U w len x0 C V S T ks x n us h vs ls ∧ S.1 281 2 = c ∧ T.1 621 78 = td ∧ us + 4 * (pcL p N φ lo U a + zsOf k p N φ ψ own lo U ks) ≤ 76 * n + 72 ∧ 2 * (vs : Int) + vv ≤ 299 * (n : Int) + C
/-- choices that cost no step as they are taken up -/
def cW (T : ev_St) : Nat → Nat
  | 0 => 0
  | h + 1 => cW T h + (if T.1 687 h = 0 ∨ T.1 687 h = 2 then 0 else 1)
theorem cW_c (hr : AR vs h ls T T2) : ∀ b, b ≤ h → cW T2 b = cW T b := fun b => by
  induction b with
  | zero => exact fun _ => rfl
  | succ b ih =>
    intro hb
    have e1 : cW T2 (b + 1) = cW T2 b + (if T2.1 687 b = 0 ∨ T2.1 687 b = 2 then 0 else 1) := rfl
    have e2 : cW T (b + 1) = cW T b + (if T.1 687 b = 0 ∨ T.1 687 b = 2 then 0 else 1) := rfl
    rw [e1, e2, ih (by omega), hr.2.1 687 b (by omega) (by omega) (by omega)]
theorem cW_s : cW T (h + 1) ≤ cW T h + 1 ∧ cW T h ≤ cW T (h + 1) ∧ (T.1 687 h = 0 ∨ T.1 687 h = 2 → cW T (h + 1) = cW T h) ∧ (¬ (T.1 687 h = 0 ∨ T.1 687 h = 2) → cW T (h + 1) = cW T h + 1) := by
  have e2 : cW T (h + 1) = cW T h + (if T.1 687 h = 0 ∨ T.1 687 h = 2 then 0 else 1) := rfl
  rw [e2]
  by_cases z : T.1 687 h = 0 ∨ T.1 687 h = 2
  · rw [if_pos z]
    exact ⟨by omega, by omega, fun _ => rfl, fun y => absurd z y⟩
  · rw [if_neg z]
    exact ⟨by omega, by omega, fun y => absurd y z, fun _ => rfl⟩
theorem cW_le : ∀ h, cW T h ≤ h := fun h => by
  induction h with
  | zero => exact Nat.le_refl _
  | succ h ih =>
    have := (cW_s (T := T) (h := h)).1
    omega
theorem cW_mono (hb : b ≤ h) : cW T b ≤ cW T h := by
  induction h with
  | zero =>
    obtain rfl : b = 0 := by omega
    exact Nat.le_refl _
  | succ h ih =>
    have := (cW_s (T := T) (h := h)).2.1
    by_cases z : b = h + 1
    · rw [z]
      exact Nat.le_refl _
    · have := ih (by omega)
      omega
theorem cW_str (hb : b < h) (hk : 3 ≤ T.1 687 b) : cW T b + 1 ≤ cW T h := by
  have q := (cW_s (T := T) (h := b)).2.2.2 (by omega)
  have := cW_mono (T := T) (show b + 1 ≤ h by omega)
  omega
/-- turns that the class still has at most -/
def mu (own lo : Nat → Nat) (N n h d : Nat) (c : Int) : Nat := 15163 * (2 * (1000 - n) + h) + (722 * (d + 1) - posC own lo N c)
def PRs (k p N : Nat) (φ ψ own up lo : Nat → Nat) (U : ev_St) (w len x0 : Nat) (C : Int) (V : Nat → Nat → Nat → List KT → Nat → Int) (S T : ev_St) (ks : List KT) (x n us h vs ls : Nat) : Prop := RLC k p N φ ψ own up lo U w len x0 C V S T ks x n us h vs ls (cOf k p φ ψ U ks) 4 (posC own lo N (cOf k p φ ψ U ks)) (V 0 0 0 ks x)
def ITs (k p N : Nat) (φ ψ own up lo : Nat → Nat) (U : ev_St) (w len x0 : Nat) (C : Int) (V : Nat → Nat → Nat → List KT → Nat → Int) (m : Nat) (S T : ev_St) (ks : List KT) (x n us h vs ls : Nat) : Prop := RLC k p N φ ψ own up lo U w len x0 C V S T ks x n us h vs ls (4 * (ψ m : Int)) 1 (pE lo m) (V 1 m 0 ks x) ∧ T.1 621 80 = ((320 * p + m : Nat) : Int) ∧ m < N ∧ m ≠ 0 ∧ U.1 625 (320 * p + m) ≠ 18 ∧ cOf k p φ ψ U ks = nxC2 p φ ψ up U m
def ATs (k p N : Nat) (φ ψ own up lo : Nat → Nat) (U : ev_St) (w len x0 : Nat) (C : Int) (V : Nat → Nat → Nat → List KT → Nat → Int) (m : Nat) (S T : ev_St) (ks : List KT) (x n us h vs ls : Nat) : Prop := RLC k p N φ ψ own up lo U w len x0 C V S T ks x n us h vs ls (4 * (φ m : Int)) 2 (pE lo m) (V 2 m 0 ks x) ∧ T.1 621 80 = ((320 * p + m : Nat) : Int) ∧ m < N ∧ m ≠ 0 ∧ U.1 625 (320 * p + m) ≠ 18 ∧ cOf k p φ ψ U ks = U.1 (k + 7) (φ m)
def ROs (k p N : Nat) (φ ψ own up lo : Nat → Nat) (U : ev_St) (w len x0 : Nat) (C : Int) (V : Nat → Nat → Nat → List KT → Nat → Int) (m : Nat) (S T : ev_St) (ks : List KT) (x n us h vs ls : Nat) : Prop := RLC k p N φ ψ own up lo U w len x0 C V S T ks x n us h vs ls (U.1 (k + 6) (φ m)) 3 (pE lo m + 1) (V 3 m 0 ks x) ∧ T.1 621 80 = ((320 * p + m : Nat) : Int) ∧ m < N ∧ (8 ≤ U.1 625 (320 * p + m) ∧ U.1 625 (320 * p + m) ≤ 13) ∧ cOf k p φ ψ U ks = 4 * (φ m : Int) + 1
def R7s (k p N : Nat) (φ ψ own up lo : Nat → Nat) (U : ev_St) (w len x0 : Nat) (C : Int) (V : Nat → Nat → Nat → List KT → Nat → Int) (m : Nat) (S T : ev_St) (ks : List KT) (x n us h vs ls : Nat) : Prop := RLC k p N φ ψ own up lo U w len x0 C V S T ks x n us h vs ls (U.1 (k + 6) (φ m)) 7 (pE lo m + 1) (V 7 m 0 ks x) ∧ T.1 621 80 = ((320 * p + m : Nat) : Int) ∧ m < N ∧ U.1 625 (320 * p + m) = 18 ∧ cOf k p φ ψ U ks = 4 * (φ (up m) : Int) + 1
/-- all meeting points with at most j turns left are gone on from alike -/
def ALL (Q k p N : Nat) (φ ψ own up lo : Nat → Nat) (U : ev_St) (w len x0 : Nat) (C : Int) (V : Nat → Nat → Nat → List KT → Nat → Int) (j : Nat) : Prop := (∀ S T ks x n us h vs ls, PRs k p N φ ψ own up lo U w len x0 C V S T ks x n us h vs ls → mu own lo N n (cW T h) (dOf ks) (cOf k p φ ψ U ks) ≤ j → GZ Q x0 j (1100 * j + 40) 1 S T) ∧ (∀ m S T ks x n us h vs ls, ITs k p N φ ψ own up lo U w len x0 C V m S T ks x n us h vs ls → mu own lo N n (cW T h) (dOf ks) (4 * (ψ m : Int)) ≤ j → GZ Q x0 j (1100 * j + 40) 1 S T) ∧ (∀ m S T ks x n us h vs ls, ATs k p N φ ψ own up lo U w len x0 C V m S T ks x n us h vs ls → mu own lo N n (cW T h) (dOf ks) (4 * (φ m : Int)) ≤ j → GZ Q x0 j (1100 * j + 40) 1 S T) ∧ (∀ m S T ks x n us h vs ls, ROs k p N φ ψ own up lo U w len x0 C V m S T ks x n us h vs ls → mu own lo N n (cW T h) (dOf ks) (U.1 (k + 6) (φ m)) ≤ j → GZ Q x0 j (1100 * j + 40) 1 S T) ∧ (∀ m S T ks x n us h vs ls, R7s k p N φ ψ own up lo U w len x0 C V m S T ks x n us h vs ls → mu own lo N n (cW T h) (dOf ks) (U.1 (k + 6) (φ m)) ≤ j → GZ Q x0 j (1100 * j + 40) 1 S T) ∧ (∀ S T n us h vs ls, COB k p N φ ψ own up lo U w len x0 C V S T n us h vs ls → T.1 621 78 = 5 → 15163 * (2 * (1000 - n) + cW T h) + 1 ≤ j → GZ Q x0 j (1100 * j + 40) 0 S T)
/-- what stands fixed all the time -/
def FIX (Q k p N M : Nat) (φ ψ own up lo : Nat → Nat) (U : ev_St) (w len : Nat) (C : Int) (V : Nat → Nat → Nat → List KT → Nat → Int) : Prop := STA k p N M φ ψ own up lo U ∧ POT p N U len V ∧ (ev_isOb w 10 = true ∧ ev_aln (w + 1) = 160 ∧ w < 280 ∧ U.1 w 1 = (len : Int) ∧ len ≤ 160 ∧ ∀ i, i < len → sp_sign (U.1 (w + 1) i) = 1) ∧ C ≤ 980 ∧ 1000000 ≤ Q
theorem CPS_low (hb : b ≤ h) : CPS k p N φ ψ own up lo U len x0 C V S T n h us vs ls → CPS k p N φ ψ own up lo U len x0 C V S T n b us vs ls := by
  induction h generalizing us vs ls with
  | zero =>
    intro _
    obtain rfl : b = 0 := by omega
    exact True.intro
  | succ h ih =>
    intro q
    by_cases z : b = h + 1
    · rw [z]
      exact q
    · obtain ⟨u, v, g, q1, q2, q3, _, q5⟩ := q
      exact CPS_m (Nat.le_refl n) b u v g us vs ls AC_r AR_r q1 q2 q3 (ih (by omega) q5)
/-- the class's kinds -/
theorem kcl_v {c f : Int} : (c = 0 → kcl c f = 0) ∧ (c = 7 → kcl c f = 7) ∧ (c = 8 → kcl c f = 18) ∧ (c = 9 → kcl c f = 17) ∧ (c = 10 → kcl c f = 19) ∧ (c = 11 → kcl c f = if f = 0 then 20 else 21) ∧ (c = 12 → kcl c f = if f = 0 then 22 else 23) ∧ (c = 13 → kcl c f = 8) ∧ (c = 14 → kcl c f = 9) ∧ (c = 15 → kcl c f = 10) ∧ (c = 16 → kcl c f = 11) ∧ (c = 17 → kcl c f = 12) ∧ (c = 1 → kcl c f = if f = 0 then 1 else 2) ∧ (c = 2 → kcl c f = if f = 0 then 3 else 4) ∧ (c = 3 → kcl c f = 1) ∧ (c = 4 → kcl c f = 3) ∧ (c = 5 → kcl c f = 5) ∧ (c = 6 → kcl c f = 6) := by
  refine ⟨?_, ?_, ?_, ?_, ?_, ?_, ?_, ?_, ?_, ?_, ?_, ?_, ?_, ?_, ?_, ?_, ?_, ?_⟩ <;> (intro e; subst e; rfl)
/-- behind an atom, a repeat -/
theorem pos_af (hA : STA k p N M φ ψ own up lo U) (hm : m < N) (h0 : m ≠ 0) (h18 : U.1 625 (320 * p + m) ≠ 18) : pE lo m < posC own lo N (U.1 (k + 7) (φ m)) ∧ pL lo N (φ m) < posC own lo N (U.1 (k + 7) (φ m)) ∧ posC own lo N (U.1 (k + 7) (φ m)) < 720 ∧ ∃ b w : Nat, b < M ∧ w ≤ 1 ∧ U.1 (k + 7) (φ m) = 4 * (b : Int) + (w : Int) := by
  have a := (sa_after hA hm h0 h18).1
  have l := sa_lo hA hm
  obtain ⟨q1, q2, q3, q4⟩ := pos_nx hA hm h0 h18
  rcases sa_rep hA hm with ⟨y, e⟩ | ⟨y, y1, y2, y3, y4, y5, y6, y7⟩
  · rw [e] at a q2
    rw [a]
    exact ⟨q1, q2 _ (Nat.le_refl _), q3, q4⟩
  · rw [y7, posC_L]
    have lt : φ m < bt k p ψ U m := by
      rcases y with z | z
      · rw [z.2.1]
        exact z.2.2
      · exact z.2.1
    exact ⟨pEL hA hm (by omega), pLL lt, pL_b hA y1, _, 1, y1, by omega, by omega⟩
theorem pos_ab (hA : STA k p N M φ ψ own up lo U) (hm : m < N) (h0 : m ≠ 0) (h18 : U.1 625 (320 * p + m) ≠ 18) (hr : U.1 630 (320 * p + m) ≠ -1) : pE lo m < pL lo N (bt k p ψ U m) ∧ pL lo N (bt k p ψ U m) < posC own lo N (U.1 (k + 7) (bt k p ψ U m)) ∧ posC own lo N (U.1 (k + 7) (bt k p ψ U m)) < 720 ∧ ∃ b w : Nat, b < M ∧ w ≤ 1 ∧ U.1 (k + 7) (bt k p ψ U m) = 4 * (b : Int) + (w : Int) := by
  have a := (sa_after hA hm h0 h18).1
  have l := sa_lo hA hm
  obtain ⟨q1, q2, q3, q4⟩ := pos_nx hA hm h0 h18
  have nd := (sa_node hA hm).1
  rcases sa_rep hA hm with ⟨y, e⟩ | ⟨y, y1, y2, y3, y4, y5, y6, y7⟩
  · exact absurd y hr
  · rcases y with z | z
    · rw [z.2.1, a]
      exact ⟨pEL hA hm (by omega), q2 _ (Nat.le_refl _), q3, q4⟩
    · rw [z.2.2.2.2.2, posC_L]
      exact ⟨pEL hA hm (by omega), pLL (by omega), pL_b hA nd.2.1, _, 1, nd.2.1, by omega, by omega⟩
/-- turns left: a move without a step -/
theorem mu_lt {d d2 : Nat} {c c2 : Int} (h1 : (d2 = d ∧ posC own lo N c < posC own lo N c2) ∨ d2 < d) (h2 : posC own lo N c < 720) (h3 : posC own lo N c2 < 720) : mu own lo N n h d2 c2 < mu own lo N n h d c := by
  unfold mu
  rcases h1 with ⟨rfl, h1⟩ | h1 <;> omega
/-- a step, perhaps with a choice -/
theorem mu_st {d d2 : Nat} {c c2 : Int} (hn : n < 1000) (hd : d2 ≤ 20) (hp : posC own lo N c < 720) (hh : h2 ≤ h + 1) : mu own lo N (n + 1) h2 d2 c2 < mu own lo N n h d c := by
  unfold mu
  have : 722 * (d2 + 1) - posC own lo N c2 ≤ 15162 := by omega
  omega
/-- a part ends early -/
theorem mu_hs {d d2 : Nat} {c c2 : Int} (hd : d2 ≤ 20) (hp : posC own lo N c < 720) (hh : h2 < h) : mu own lo N n h2 d2 c2 < mu own lo N n h d c := by
  unfold mu
  have : 722 * (d2 + 1) - posC own lo N c2 ≤ 15162 := by omega
  omega
theorem mu_off {d : Nat} {c : Int} (hp : posC own lo N c < 720) (hh : h2 ≤ h) : 15163 * (2 * (1000 - n) + h2) + 2 < mu own lo N n h d c := by
  unfold mu
  omega
theorem mu_on {d : Nat} {c : Int} (hd : d ≤ 20) (hh : h2 < h) : mu own lo N n h2 d c < 15163 * (2 * (1000 - n) + h) := by
  unfold mu
  have : 722 * (d + 1) - posC own lo N c ≤ 15162 := by omega
  omega
end OPZF
