/-! THE READER: nodes are tied: what it comes to -/
section RFIT
variable {Q k n m w d N M D lv t b : Nat} {S O S0 S1 S' S2 T U : ev_St} {φ ψ own up f pc : Nat → Nat}
theorem inC_e {x : Int} {g h : Nat} (hg : inC O k x g) (hs : O.1 (k + 5) g = (h : Int)) : inC O k x h := by
  obtain ⟨i, hi⟩ := hg
  induction i generalizing x with
  | zero =>
    have e : x = (g : Int) := hi
    rw [e]
    exact inC_s.mpr (Or.inr (by rw [hs]; exact inC_0))
  | succ i ih =>
    have h' : (if x < 0 then (-1 : Int) else snx O k i (O.1 (k + 5) x.toNat)) = (g : Int) := hi
    by_cases z : x < 0
    · rw [if_pos z] at h'
      omega
    · rw [if_neg z] at h'
      have := ih h'
      rw [show x = (x.toNat : Int) by omega]
      exact inC_s.mpr (Or.inr this)
/-- rows are found in their part, items in their row -/
theorem inC_up (hF : FIN k N M φ ψ own S T) (hU : UPf k N M φ ψ own up S T) (hL : LK2 N T) (hv : ∀ m, m < N → RVl N T m) : ∀ (i t : Nat), t < i → t < N → t ≠ 0 → inC S k (S.1 (k + 4) (φ (up t))) (ψ t) ∧ (T.1 625 (3840 + t) = 18 ↔ T.1 625 (3840 + up t) ≠ 18) := fun i => by
  induction i with
  | zero => intro t h; omega
  | succ i ih =>
    intro t hi ht h0
    have ut := hU.1.1 t ht
    rcases hU.1.2.2.2 t h0 ht with z | ⟨s, z1, z2, z3⟩
    · rcases (node_C hF hL hv ut).2.1 with ⟨w, _⟩ | ⟨t', w1, w2, w3, w4, w5⟩
      · omega
      · have e : t' = t := by omega
        subst e
        rw [w4]
        exact ⟨inC_0, w5⟩
    · rcases (node_C hF hL hv z1).2.2 with ⟨w, _⟩ | ⟨t', w1, w2, w3, w4, w5⟩
      · omega
      · have e : t' = t := by omega
        subst e
        have s0 : s ≠ 0 := fun e => by
          rw [e] at z2
          have := hF.2.2.2.2.2.1
          rw [show 3840 + 0 = 3840 from rfl] at z2
          omega
        have q := ih s (by omega) z1 s0
        rw [z3] at q
        exact ⟨inC_e q.1 w4, w5.trans q.2⟩
/-- the chain of a node holds nothing else -/
theorem inC_dn (hF : FIN k N M φ ψ own S T) (hL : LK2 N T) (hv : ∀ m, m < N → RVl N T m) : ∀ (i t g : Nat), t < N → snx S k i (ψ t : Int) = (g : Int) → ∃ s, s < N ∧ g = ψ s ∧ (T.1 625 (3840 + s) = 18 ↔ T.1 625 (3840 + t) = 18) := fun i => by
  induction i with
  | zero =>
    intro t g ht h
    have e : (ψ t : Int) = (g : Int) := h
    exact ⟨t, ht, by omega, Iff.rfl⟩
  | succ i ih =>
    intro t g ht h
    have h' : (if (ψ t : Int) < 0 then (-1 : Int) else snx S k i (S.1 (k + 5) (ψ t : Int).toNat)) = (g : Int) := h
    rw [if_neg (by omega), Int.toNat_natCast] at h'
    rcases (node_C hF hL hv ht).2.2 with ⟨_, w⟩ | ⟨u, w1, w2, w3, w4, w5⟩
    · rw [w, snx_m i (by omega) rfl] at h'
      omega
    · rw [w4] at h'
      obtain ⟨s, s1, s2, s3⟩ := ih u g w2 h'
      exact ⟨s, s1, s2, s3.trans w5⟩
def kro (c : Int) : Prop := 8 ≤ c ∧ c ≤ 13
/-- what the tie comes to, by the reference's nodes -/
def TIE (k N : Nat) (φ ψ up : Nat → Nat) (S T : ev_St) : Prop := (∀ t, t < N → t ≠ 0 → T.1 625 (3840 + t) ≠ 18 → S.1 (k + 7) (ψ t) = if T.1 627 (3840 + t) = -1 then 4 * (φ (up (up t)) : Int) + 1 else 4 * (ψ (T.1 627 (3840 + t)).toNat : Int)) ∧ (∀ t, t < N → T.1 625 (3840 + t) = 18 → S.1 (k + 6) (φ t) = if T.1 626 (3840 + t) = -1 then 4 * (φ (up t) : Int) + 1 else 4 * (ψ (T.1 626 (3840 + t)).toNat : Int)) ∧ (∀ t, t < N → kro (T.1 625 (3840 + t)) → S.1 (k + 6) (φ t) = if T.1 627 (3840 + (T.1 626 (3840 + t)).toNat) = -1 then S.1 (k + 6) (φ (T.1 626 (3840 + t)).toNat) else 4 * (φ (T.1 626 (3840 + t)).toNat : Int)) ∧ (∀ t, t < N → ((T.1 630 (3840 + t) = 0 ∨ T.1 630 (3840 + t) = 1) → S.1 (k + 7) (φ t) = 4 * (ψ t : Int) + 1) ∧ (T.1 630 (3840 + t) = 2 → ∃ x y : Nat, S.1 (k + 4) (ψ t) = (x : Int) ∧ S.1 (k + 4) x = (y : Int) ∧ S.1 (k + 7) (φ t) = 4 * (y : Int) + 1 ∧ S.1 (k + 7) y = 4 * (ψ t : Int) + 1 ∧ S.1 (k + 6) (ψ t) = 4 * (y : Int))) ∧ S.1 (k + 7) (φ 0) = -1 ∧ nrc (Kn T) N ≤ 151
theorem kd_C (hF : FIN k N M φ ψ own S T) {m : Nat} (hm : m < N) (h0 : m ≠ 0) : S.1 (k + 1) (φ m) = kcl (T.1 625 (3840 + m)) (T.1 629 (3840 + m)) := (hF.1 m hm h0).2.1.1
theorem kcl_h {c f : Int} (hc : 0 ≤ c ∧ c ≤ 18) : (hrw (kcl c f) ↔ kro c) ∧ (kcl c f = 15 ↔ c = 18) ∧ (kcl c f ≠ 13 ∧ kcl c f ≠ 14) := by
  have h : c = 0 ∨ c = 1 ∨ c = 2 ∨ c = 3 ∨ c = 4 ∨ c = 5 ∨ c = 6 ∨ c = 7 ∨ c = 8 ∨ c = 9 ∨ c = 10 ∨ c = 11 ∨ c = 12 ∨ c = 13 ∨ c = 14 ∨ c = 15 ∨ c = 16 ∨ c = 17 ∨ c = 18 := by omega
  by_cases hf : f = 0
  · subst hf
    unfold kro
    rcases h with rfl | rfl | rfl | rfl | rfl | rfl | rfl | rfl | rfl | rfl | rfl | rfl | rfl | rfl | rfl | rfl | rfl | rfl | rfl <;> decide
  · unfold kcl kro
    rcases h with rfl | rfl | rfl | rfl | rfl | rfl | rfl | rfl | rfl | rfl | rfl | rfl | rfl | rfl | rfl | rfl | rfl | rfl | rfl <;> simp [hf, hrw]
theorem hr_of (hF : FIN k N M φ ψ own S T) (hU : UPf k N M φ ψ own up S T) (hL : LK2 N T) (hV : RV N T) : ∀ b, b < M → hrw (S.1 (k + 1) b) → ∀ r, inC S k (S.1 (k + 4) b) r → S.1 (k + 1) r = 15 := fun b hb hk r hr => by
  have hv := hV.2
  obtain ⟨oN, hb'⟩ := hU.2.2.1 b hb
  obtain ⟨m, hm⟩ : ∃ m, m = own b := ⟨_, rfl⟩
  rw [← hm] at oN hb'
  have kr := (hV.1 m oN).1.1
  -- rows in a part
  have part : T.1 625 (3840 + m) ≠ 18 → inC S k (S.1 (k + 4) (φ m)) r → S.1 (k + 1) r = 15 := fun h18 hr => by
    rcases (node_C hF hL hv oN).2.1 with ⟨_, z⟩ | ⟨t, t1, t2, t3, t4, t5⟩
    · rw [z] at hr
      exact absurd hr inC_m
    · rw [t4] at hr
      obtain ⟨i, hi⟩ := hr
      obtain ⟨s, s1, s2, s3⟩ := inC_dn hF hL hv i t r t2 hi
      have k18 : T.1 625 (3840 + s) = 18 := s3.mpr (t5.mpr h18)
      have s0 : s ≠ 0 := fun e => by
        rw [e] at k18
        have := hF.2.2.2.1
        rw [show 3840 + 0 = 3840 from rfl] at k18
        omega
      rw [s2, row_e hF hL s1 k18, kd_C hF s1 s0, ((kcl_h (hV.1 s s1).1.1).2.1).mpr k18]
  have atom : b = φ m → S.1 (k + 1) r = 15 := fun e => by
    rw [e] at hk hr
    refine part (fun h18 => ?_) hr
    have m0 : m ≠ 0 := fun e => by
      rw [e] at h18
      have := hF.2.2.2.1
      rw [show 3840 + 0 = 3840 from rfl] at h18
      omega
    rw [kd_C hF oN m0] at hk
    have := ((kcl_h kr).1).mp hk
    unfold kro at this
    omega
  rcases rep_C hF hU oN with ⟨r1, r2⟩ | ⟨r1, r2, r3, r4, r5, r6, r7⟩ | ⟨r1, x, y, r2, r3, r4, r5, r6, ⟨r7, r8⟩, ⟨r9, r10, r11⟩, ⟨r12, r13, r14, r15, r16⟩, r17⟩
  · rcases hb' with z | z | z
    · exact atom z
    · exact atom (by rw [z, r2])
    · have := z.1
      omega
  · rcases hb' with z | z | z
    · exact atom z
    · rw [z, r3] at hk
      unfold hrw at hk
      omega
    · have := z.1
      omega
  · rcases hb' with z | z | z
    · exact atom z
    · rw [z, r8] at hr
      rcases inC_s.mp hr with w | w
      · rw [w, r9]
      · rw [r11] at w
        exact absurd w inC_m
    · rcases z.2 with w | ⟨u, w1, w2⟩
      · have : b = x := by omega
        rw [this, r9] at hk
        unfold hrw at hk
        omega
      · have : u = x := by omega
        rw [this] at w2
        have : b = y := by omega
        rw [this, r12] at hk
        unfold hrw at hk
        omega
theorem TIE_of (hF : FIN k N M φ ψ own S T) (hU : UPf k N M φ ψ own up S T) (hL : LK2 N T) (hV : RV N T) (h1 : ∀ b, b < M → TI1 k S S2 b) (hi : TIi k S S2) (h7 : S2.1 (k + 7) (φ 0) = -1 ∧ nrc (Kn T) N ≤ 151) : TIE k N φ ψ up S2 T := by
  have hv := hV.2
  have k0 : T.1 625 (3840 + 0) = 9 := hF.2.2.2.1
  have up18 : ∀ t, t < N → t ≠ 0 → inC S k (S.1 (k + 4) (φ (up t))) (ψ t) ∧ (T.1 625 (3840 + t) = 18 ↔ T.1 625 (3840 + up t) ≠ 18) := fun t ht h0 => inC_up hF hU hL hv (t + 1) t (Nat.lt_succ_self t) ht h0
  -- parts have rows in the class too
  have kb : ∀ t, t < N → kro (T.1 625 (3840 + t)) → hrw (S.1 (k + 1) (φ t)) := fun t ht hk => by
    by_cases e : t = 0
    · rw [e, hF.2.1.2.2.2.1]
      exact Or.inl (Int.le_refl _)
    · rw [kd_C hF ht e]
      exact ((kcl_h (hV.1 t ht).1.1).1).mpr hk
  -- a node that has something in it, and is no row, is a part
  have isP : ∀ t, t < N → T.1 625 (3840 + t) ≠ 18 → (∃ s : Nat, s < N ∧ s ≠ 0 ∧ up s = t) → S.1 (k + 4) (φ t) ≠ -1 := fun t ht _ ⟨s, s1, s2, s3⟩ z => by
    have := (up18 s s1 s2).1
    rw [s3, z] at this
    exact absurd this inC_m
  have prt : ∀ r, r < N → r ≠ 0 → T.1 625 (3840 + r) = 18 → kro (T.1 625 (3840 + up r)) := fun r hr h0 h18 => by
    have u := up18 r hr h0
    have k := u.2.mp h18
    have uN := hU.1.1 r hr
    refine ((hv (up r) uN).2.2.2 k).mp fun z => ?_
    rcases (node_C hF hL hv uN).2.1 with ⟨_, w⟩ | ⟨t', w1, _⟩
    · exact isP (up r) uN k ⟨r, hr, h0, rfl⟩ w
    · omega
  -- a row in its part
  have row : ∀ r, r < N → T.1 625 (3840 + r) = 18 → (S2.1 (k + 6) (φ r) = BGv S k (4 * (φ (up r) : Int) + 1) (φ r) ∧ ∀ g, inC S k (S.1 (k + 4) (φ r)) g → S2.1 (k + 7) g = AFv S k (4 * (φ (up r) : Int) + 1) g) := fun r hr h18 => by
    have h0 : r ≠ 0 := fun e => by
      rw [e] at h18
      omega
    have uN := hU.1.1 r hr
    have nb := (node_C hF hL hv uN).1.1
    have er := row_e hF hL hr h18
    have q := (up18 r hr h0).1
    rw [er] at q
    exact ((h1 (φ (up r)) nb).2 (kb _ uN (prt r hr h0 h18))).1 (φ r) q
  refine ⟨fun t ht h0 h18 => ?_, fun t ht h18 => ?_, fun t ht hk => ?_, fun t ht => ⟨fun hr => ?_, fun hr => ?_⟩, h7⟩
  · have u := up18 t ht h0
    have uN := hU.1.1 t ht
    have k18 : T.1 625 (3840 + up t) = 18 := by
      by_cases z : T.1 625 (3840 + up t) = 18
      · exact z
      · exact absurd (u.2.mpr z) h18
    rw [(row (up t) uN k18).2 _ u.1]
    unfold AFv
    rcases (node_C hF hL hv ht).2.2 with ⟨w, w'⟩ | ⟨v, w1, w2, w3, w4, w5⟩
    · rw [w', if_pos (by omega), if_pos w]
    · rw [w4, if_neg (by omega), if_neg (by omega), w1, Int.toNat_natCast]
  · rw [(row t ht h18).1]
    unfold BGv
    rcases (node_C hF hL hv ht).2.1 with ⟨w, w'⟩ | ⟨v, w1, w2, w3, w4, w5⟩
    · rw [w', if_pos (by omega), if_pos w]
    · rw [w4, if_neg (by omega), if_neg (by omega), w1, Int.toNat_natCast]
  · have n18 : T.1 625 (3840 + t) ≠ 18 := by
      unfold kro at hk
      omega
    have c := (node_C hF hL hv ht)
    rcases c.2.1 with ⟨w, _⟩ | ⟨v, w1, w2, w3, w4, w5⟩
    · exact absurd w (((hv t ht).2.2.2 n18).mpr hk)
    · have v18 := w5.mpr n18
      have ev := row_e hF hL w2 v18
      have uv := hU.1.2.1 t v ht w1
      have q := ((h1 (φ t) c.1.1).2 (kb t ht hk)).2 (φ v) (by rw [w4, ev])
      rw [q, w1, Int.toNat_natCast, (row v w2 v18).1, uv]
      rcases (node_C hF hL hv w2).2.2 with ⟨x, x'⟩ | ⟨y, y1, y2, y3, y4, y5⟩
      · rw [ev] at x'
        rw [x', if_neg (by omega), if_pos x]
      · rw [ev] at y4
        rw [y4, if_pos (by omega), if_neg (by omega)]
  · rcases rep_C hF hU ht with ⟨r1, _⟩ | ⟨r1, r2, r3, r4, r5, r6, r7⟩ | ⟨r1, _⟩
    · omega
    · have nb := (node_C hF hL hv ht).1.2.1
      exact (h1 (ψ t) nb).1 (by omega) (φ t) r4
    · omega
  · rcases rep_C hF hU ht with ⟨r1, _⟩ | ⟨r1, _⟩ | ⟨r1, x, y, r2, r3, r4, r5, r6, ⟨r7, r8⟩, ⟨r9, r10, r11⟩, ⟨r12, r13, r14, r15, r16⟩, r17⟩
    · omega
    · omega
    · have nb := (node_C hF hL hv ht).1.2.1
      have b1 := h1 (ψ t) nb
      have b2 := (h1 y (by omega)).1 (Or.inl r12) (φ t) r13
      have b3 := b1.2 (Or.inl (by rw [r7]; decide))
      have b4 := b3.2 x r8
      have b5 := (b3.1 x (by rw [r8]; exact inC_0)).2 y (by rw [r10]; exact inC_0)
      refine ⟨x, y, ?_, ?_, b2, ?_, ?_⟩
      · rw [hi.1 _ _ (by omega) (by omega), r8]
      · rw [hi.1 _ _ (by omega) (by omega), r10]
      · rw [b5]
        unfold AFv
        rw [r16, if_pos (by omega)]
      · rw [b4, r11, if_neg (by omega)]
        unfold BGv
        rw [r10, if_neg (by omega)]
end RFIT
