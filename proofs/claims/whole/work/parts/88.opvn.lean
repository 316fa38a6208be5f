/-! THE READER: nodes are tied: the class's loops -/
section RTIE
variable {Q k n m w d N M D lv t b : Nat} {S O S0 S1 S' S2 U : ev_St} {f pc : Nat → Nat}
/-- the n-th one behind a node -/
def snx (O : ev_St) (k : Nat) : Nat → Int → Int
  | 0, x => x
  | n + 1, x => if x < 0 then -1 else snx O k n (O.1 (k + 5) x.toNat)
def inC (O : ev_St) (k : Nat) (x : Int) (g : Nat) : Prop := ∃ n, snx O k n x = (g : Int)
theorem snx_m (n : Nat) {x : Int} (h : x < 0) (h2 : x = -1) : snx O k n x = -1 := by
  cases n with
  | zero => exact h2
  | succ n => exact if_pos h
theorem inC_m {g : Nat} : ¬ inC O k (-1) g := fun ⟨n, h⟩ => by
  rw [snx_m n (by omega) rfl] at h
  omega
theorem inC_0 {g : Nat} : inC O k (g : Int) g := ⟨0, rfl⟩
theorem inC_s {x g : Nat} : inC O k (x : Int) g ↔ g = x ∨ inC O k (O.1 (k + 5) x) g := by
  constructor
  · rintro ⟨n, h⟩
    cases n with
    | zero => exact Or.inl (by have : (x : Int) = (g : Int) := h; omega)
    | succ n =>
      refine Or.inr ⟨n, ?_⟩
      have h' : (if (x : Int) < 0 then (-1 : Int) else snx O k n (O.1 (k + 5) (x : Int).toNat)) = (g : Int) := h
      rw [if_neg (by omega), Int.toNat_natCast] at h'
      exact h'
  · rintro (h | ⟨n, h⟩)
    · rw [h]
      exact inC_0
    · refine ⟨n + 1, ?_⟩
      show (if (x : Int) < 0 then (-1 : Int) else snx O k n (O.1 (k + 5) (x : Int).toNat)) = (g : Int)
      rw [if_neg (by omega), Int.toNat_natCast]
      exact h
/-- the class's tree -/
def CTR (k M : Nat) (pc f : Nat → Nat) (O : ev_St) : Prop := O.1 k 11 = (M : Int) ∧ M ≤ 400 ∧ (∀ b, b < M → -1 ≤ O.1 (k + 4) b ∧ O.1 (k + 4) b < (b : Int)) ∧ (∀ b, b < M → -1 ≤ O.1 (k + 5) b ∧ O.1 (k + 5) b < (M : Int)) ∧ (∀ b c : Nat, b < M → O.1 (k + 4) b = (c : Int) → pc c = b) ∧ (∀ b c : Nat, b < M → O.1 (k + 5) b = (c : Int) → pc c = pc b ∧ f c < f b ∧ c < pc c) ∧ ∀ b, b < M → f b < 390
theorem inC_f (hC : CTR k M pc f O) : ∀ (n x g : Nat), x < M → snx O k n (x : Int) = (g : Int) → g < M ∧ pc g = pc x ∧ f g ≤ f x ∧ (x < pc x → g < pc g) := fun n => by
  induction n with
  | zero =>
    intro x g hx h
    have : (x : Int) = (g : Int) := h
    have e : g = x := by omega
    subst e
    exact ⟨hx, rfl, Nat.le_refl _, fun z => z⟩
  | succ n ih =>
    intro x g hx h
    have h' : (if (x : Int) < 0 then (-1 : Int) else snx O k n (O.1 (k + 5) (x : Int).toNat)) = (g : Int) := h
    rw [if_neg (by omega), Int.toNat_natCast] at h'
    have s := hC.2.2.2.1 x hx
    by_cases e : O.1 (k + 5) x = -1
    · rw [e, snx_m n (by omega) rfl] at h'
      omega
    · obtain ⟨y, hy⟩ : ∃ y : Nat, O.1 (k + 5) x = (y : Int) := ⟨(O.1 (k + 5) x).toNat, by omega⟩
      rw [hy] at h'
      have q := hC.2.2.2.2.2.1 x y hx hy
      have := ih y g (by omega) h'
      exact ⟨this.1, by rw [this.2.1, q.1], by omega, fun _ => this.2.2.2 q.2.2⟩
def AFv (O : ev_St) (k : Nat) (e : Int) (g : Nat) : Int := if O.1 (k + 5) g < 0 then e else 4 * O.1 (k + 5) g
/-- all but what is tied is as it was -/
def TIi (k : Nat) (O S : ev_St) : Prop := (∀ a g, a ≠ k + 6 → a ≠ k + 7 → S.1 a g = O.1 a g) ∧ S.2 = O.2
theorem tie_in {e x6 a0 : Int} {x5 : Nat} {K16 : Int → Int → Int → ev_St → Option (Unit × ev_St)} (hk : ev_isOb k 5 = true) (hC : CTR k M pc f O) (h5 : x5 < M) (h6 : 0 ≤ x6 ∧ x6 < 400) : ∀ (n q : Nat) (x j : Int) (S : ev_St), (x = -1 ∨ ∃ t : Nat, t < M ∧ x = (t : Int) ∧ f t < n) → 0 ≤ j → j + n ≤ 400 → n < q → TIi k O S → ∃ S', jl_68_75 Q k a0 e (x5 : Int) x6 K16 q x j S = K16 e (O.1 (k + 5) x5) (x6 + 1) S' ∧ TIi k O S' ∧ (∀ g, inC O k x g → S'.1 (k + 7) g = AFv O k e g) ∧ ∀ a g, ¬ (a = k + 7 ∧ inC O k x g) → S'.1 a g = S.1 a g := fun n => by
  obtain ⟨l1, l2, l3, l4, l5, l6, l7, l8, l9⟩ := al_Pt hk
  have hM := hC.2.1
  have stop : ∀ (q : Nat) (j : Int) (S : ev_St), TIi k O S → ∃ S', jl_68_75 Q k a0 e (x5 : Int) x6 K16 (q + 1) (-1) j S = K16 e (O.1 (k + 5) x5) (x6 + 1) S' ∧ TIi k O S' ∧ (∀ g, inC O k (-1) g → S'.1 (k + 7) g = AFv O k e g) ∧ ∀ a g, ¬ (a = k + 7 ∧ inC O k (-1) g) → S'.1 a g = S.1 a g := fun q j S hS => by
    refine ⟨S, ?_, hS, fun g h => absurd h inC_m, fun _ _ _ => rfl⟩
    show jb_68_75 Q k a0 e _ _ _ _ _ _ _ = _
    unfold jb_68_75
    rw [sp_jn]
    have tail : (ev_if ((0 : Int) ≤ (x5 : Int) ∧ (x5 : Int) < (ev_aln ((k + 5)) : Int)) (ev_b (S.1 ((k + 5)) (Int.toNat (x5 : Int))) fun x68 => ev_ck (x6 + 1) fun x69 => K16 e x68 x69 S)) = K16 e (O.1 (k + 5) x5) (x6 + 1) S := by
      rw [sp_if (by rw [l5]; omega), Int.toNat_natCast, hS.1 _ _ (by omega) (by omega), sp_b, sp_ck (by omega)]
    by_cases z : 400 ≤ j
    · rw [if_pos z]
      exact tail
    · rw [if_neg z, sp_59, if_neg (by omega), sp_bd, if_pos rfl]
      exact tail
  induction n with
  | zero =>
    intro q x j S hx hj hn hq hS
    obtain ⟨q', rfl⟩ : ∃ q', q = q' + 1 := ⟨q - 1, by omega⟩
    rcases hx with z | ⟨t, _, _, z⟩
    · rw [z]
      exact stop q' j S hS
    · omega
  | succ n ih =>
    intro q x j S hx hj hn hq hS
    obtain ⟨q', rfl⟩ : ∃ q', q = q' + 1 := ⟨q - 1, by omega⟩
    rcases hx with z | ⟨t, h1, h2, h3⟩
    · rw [z]
      exact stop q' j S hS
    · rw [h2]
      have s := hC.2.2.2.1 t h1
      have e5 : S.1 (k + 5) t = O.1 (k + 5) t := hS.1 _ _ (by omega) (by omega)
      obtain ⟨S1, hS1⟩ : ∃ S1, S1 = ev_pI S (k + 7) t (AFv O k e t) := ⟨_, rfl⟩
      have t1 : TIi k O S1 := ⟨fun a g ha hb => by rw [hS1, sp_pI1, if_neg (by omega)]; exact hS.1 a g ha hb, by rw [hS1]; exact hS.2⟩
      have e51 : S1.1 (k + 5) t = O.1 (k + 5) t := t1.1 _ _ (by omega) (by omega)
      have step : jl_68_75 Q k a0 e (x5 : Int) x6 K16 (q' + 1) (t : Int) j S = jl_68_75 Q k a0 e (x5 : Int) x6 K16 q' (O.1 (k + 5) t) (j + 1) S1 := by
        show jb_68_75 Q k a0 e _ _ _ _ _ _ _ = _
        unfold jb_68_75
        rw [sp_jn, if_neg (by omega), sp_59, if_pos (by rw [hS.1 k 11 (by omega) (by omega), hC.1]; omega), sp_bd, if_neg (by decide), sp_if (by rw [l5]; omega), Int.toNat_natCast, e5, sp_b, sp_jn]
        by_cases z : 0 ≤ O.1 (k + 5) t
        · have ea : AFv O k e t = 4 * O.1 (k + 5) t := if_neg (by omega)
          rw [if_pos z, sp_if (by rw [l5]; omega), sp_b, sp_ck (by omega), sp_ck (by omega)]
          try dsimp only
          rw [sp_if (by rw [l7]; omega), Int.toNat_natCast, sp_b, Int.add_zero, ← ea, ← hS1, sp_if (by rw [l5]; omega), e51, sp_b, sp_ck (by omega)]
        · have ea : AFv O k e t = e := if_pos (by omega)
          rw [if_neg z]
          try dsimp only
          rw [sp_if (by rw [l7]; omega), Int.toNat_natCast, sp_b, show ev_pI S (k + 7) t e = S1 from by rw [hS1, ea], sp_if (by rw [l5]; omega), e51, sp_b, sp_ck (by omega)]
      rw [step]
      have hnext : O.1 (k + 5) t = -1 ∨ ∃ u : Nat, u < M ∧ O.1 (k + 5) t = (u : Int) ∧ f u < n := by
        by_cases z : O.1 (k + 5) t = -1
        · exact Or.inl z
        · refine Or.inr ⟨(O.1 (k + 5) t).toNat, by omega, by omega, ?_⟩
          have := (hC.2.2.2.2.2.1 t (O.1 (k + 5) t).toNat h1 (by omega)).2.1
          omega
      obtain ⟨S', r1, r2, r3, r4⟩ := ih q' (O.1 (k + 5) t) (j + 1) S1 hnext (by omega) (by omega) (by omega) t1
      refine ⟨S', r1, r2, fun g hg => ?_, fun a g hg => ?_⟩
      · rcases inC_s.mp hg with z | z
        · by_cases w : inC O k (O.1 (k + 5) t) g
          · exact r3 g w
          · rw [r4 _ _ (fun y => w y.2), z, hS1, rd_eq]
        · exact r3 g z
      · have ng : ¬ (a = k + 7 ∧ (g = t ∨ inC O k (O.1 (k + 5) t) g)) := fun z => hg ⟨z.1, inC_s.mpr z.2⟩
        rw [r4 a g (fun z => ng ⟨z.1, Or.inr z.2⟩), hS1, sp_pI1, if_neg (fun z => ng ⟨z.1, Or.inl z.2⟩)]
end RTIE
