/-! THE READER: nodes are tied: the rows of a part -/
section RTIE2
variable {Q k n m w d N M D lv t b : Nat} {S O S0 S1 S' S2 U : ev_St} {f pc : Nat → Nat}
def BGv (O : ev_St) (k : Nat) (e : Int) (g : Nat) : Int := if O.1 (k + 4) g < 0 then e else 4 * O.1 (k + 4) g
/-- what the rows from x on come to -/
def RWp (k : Nat) (O : ev_St) (e x : Int) (S S' : ev_St) : Prop := (∀ r, inC O k x r → S'.1 (k + 6) r = BGv O k e r ∧ ∀ g, inC O k (O.1 (k + 4) r) g → S'.1 (k + 7) g = AFv O k e g) ∧ ∀ a g, ¬ (a = k + 6 ∧ inC O k x g) → ¬ (a = k + 7 ∧ (inC O k x g ∨ ∃ r, inC O k x r ∧ inC O k (O.1 (k + 4) r) g)) → S'.1 a g = S.1 a g
/-- behind the rows of a part -/
def tieT (Q k : Nat) (p : Int) (S' : ev_St) : Option (Unit × ev_St) := ev_if ((0 : Int) ≤ p ∧ p < (ev_aln ((k + 4)) : Int)) (ev_b (S'.1 ((k + 4)) (Int.toNat p)) fun x18 => ev_bd (jm_59 Q k x18 S') fun x20 s19 => if x20 = 0 then (some ((), s19)) else (ev_if ((0 : Int) ≤ x18 ∧ x18 < (ev_aln ((k + 5)) : Int)) (ev_b (s19.1 ((k + 5)) (Int.toNat x18)) fun x22 => if 0 ≤ x22 then (ev_ck (4 * x18) fun x24 => ev_ck (x24 + 0) fun x25 => ev_if ((0 : Int) ≤ p ∧ p < (ev_aln ((k + 6)) : Int)) (ev_b (ev_pI s19 ((k + 6)) (Int.toNat p) x25) fun s26 => some ((), s26))) else (ev_if ((0 : Int) ≤ x18 ∧ x18 < (ev_aln ((k + 6)) : Int)) (ev_b (s19.1 ((k + 6)) (Int.toNat x18)) fun x27 => ev_if ((0 : Int) ≤ p ∧ p < (ev_aln ((k + 6)) : Int)) (ev_b (ev_pI s19 ((k + 6)) (Int.toNat p) x27) fun s28 => some ((), s28)))))))
theorem tie_rows {e : Int} {p : Nat} (hQ : 400 ≤ Q) (hk : ev_isOb k 5 = true) (hC : CTR k M pc f O) (he : 0 ≤ e ∧ e ≤ 4000) (hp : p < M) : ∀ (n q : Nat) (x j : Int) (S : ev_St), (x = -1 ∨ ∃ t : Nat, t < M ∧ x = (t : Int) ∧ f t < n ∧ pc t = p ∧ t < p) → 0 ≤ j → j + n ≤ 400 → n < q → TIi k O S → ∃ S', TIi k O S' ∧ RWp k O e x S S' ∧ jl_68_16 Q k (p : Int) q e x j S = tieT Q k (p : Int) S' := fun n => by
  obtain ⟨l1, l2, l3, l4, l5, l6, l7, l8, l9⟩ := al_Pt hk
  have hM := hC.2.1
  have stop : ∀ (q : Nat) (j : Int) (S : ev_St), TIi k O S → ∃ S', TIi k O S' ∧ RWp k O e (-1) S S' ∧ jl_68_16 Q k (p : Int) (q + 1) e (-1) j S = tieT Q k (p : Int) S' := fun q j S hS => by
    refine ⟨S, hS, ⟨fun r h => absurd h inC_m, fun _ _ _ _ => rfl⟩, ?_⟩
    show jb_68_16 Q k (p : Int) _ _ _ _ _ = _
    unfold jb_68_16
    rw [sp_jn]
    by_cases z : 400 ≤ j
    · rw [if_pos z]
      rfl
    · rw [if_neg z, sp_59, if_neg (by omega), sp_bd, if_pos rfl]
      rfl
  induction n with
  | zero =>
    intro q x j S hx hj hn hq hS
    obtain ⟨q', rfl⟩ : ∃ q', q = q' + 1 := ⟨q - 1, by omega⟩
    rcases hx with z | ⟨t, _, _, z, _⟩
    · rw [z]
      exact stop q' j S hS
    · omega
  | succ n ih =>
    intro q x j S hx hj hn hq hS
    obtain ⟨q', rfl⟩ : ∃ q', q = q' + 1 := ⟨q - 1, by omega⟩
    rcases hx with z | ⟨t, h1, h2, h3, h4, hbt⟩
    · rw [z]
      exact stop q' j S hS
    · rw [h2]
      have s4 := hC.2.2.1 t h1
      have s5 := hC.2.2.2.1 t h1
      have e4 : S.1 (k + 4) t = O.1 (k + 4) t := hS.1 _ _ (by omega) (by omega)
      obtain ⟨S1, hS1⟩ : ∃ S1, S1 = ev_pI (ev_pI S (k + 7) t e) (k + 6) t (BGv O k e t) := ⟨_, rfl⟩
      have t1 : TIi k O S1 := ⟨fun a g ha hb => by rw [hS1, sp_pI1, if_neg (by omega), sp_pI1, if_neg (by omega)]; exact hS.1 a g ha hb, by rw [hS1]; exact hS.2⟩
      have hit : O.1 (k + 4) t = -1 ∨ ∃ u : Nat, u < M ∧ O.1 (k + 4) t = (u : Int) ∧ f u < 390 := by
        by_cases z : O.1 (k + 4) t = -1
        · exact Or.inl z
        · exact Or.inr ⟨(O.1 (k + 4) t).toNat, by omega, by omega, hC.2.2.2.2.2.2 _ (by omega)⟩
      obtain ⟨S2, r1, r2, r3, r4⟩ := tie_in (Q := Q) (e := e) (x6 := j) (a0 := (p : Int)) (x5 := t) (K16 := fun x4 x5 x6 s => jl_68_16 Q k (p : Int) q' x4 x5 x6 s) hk hC h1 ⟨hj, by omega⟩ 390 Q (O.1 (k + 4) t) 0 S1 hit (by omega) (by omega) (by omega) t1
      have step : jl_68_16 Q k (p : Int) (q' + 1) e (t : Int) j S = jl_68_16 Q k (p : Int) q' e (O.1 (k + 5) t) (j + 1) S2 := by
        rw [← r1]
        show jb_68_16 Q k (p : Int) _ _ _ _ _ = _
        unfold jb_68_16
        rw [sp_jn, if_neg (by omega), sp_59, if_pos (by rw [hS.1 k 11 (by omega) (by omega), hC.1]; omega), sp_bd, if_neg (by decide), sp_if (by rw [l4]; omega), Int.toNat_natCast, e4, sp_b, sp_if (by rw [l7]; omega), sp_b, sp_59, show (ev_pI S (k + 7) t e).1 k 11 = (M : Int) from by rw [rd_nk (by omega), hS.1 k 11 (by omega) (by omega), hC.1]]
        by_cases z : O.1 (k + 4) t = -1
        · have eb : BGv O k e t = e := if_pos (by omega)
          rw [if_neg (by omega), sp_bd, sp_jn, if_pos rfl]
          try dsimp only
          rw [sp_if (by rw [l6]; omega), Int.toNat_natCast, sp_b, show ev_pI (ev_pI S (k + 7) t e) (k + 6) t e = S1 from by rw [hS1, eb]]
        · have eb : BGv O k e t = 4 * O.1 (k + 4) t := if_neg (by omega)
          rw [if_pos (by omega), sp_bd, sp_jn, if_neg (by decide), sp_ck (by omega), sp_ck (by omega), Int.add_zero]
          try dsimp only
          rw [sp_if (by rw [l6]; omega), Int.toNat_natCast, sp_b, show ev_pI (ev_pI S (k + 7) t e) (k + 6) t (4 * O.1 (k + 4) t) = S1 from by rw [hS1, eb]]
      rw [step]
      have hnext : O.1 (k + 5) t = -1 ∨ ∃ u : Nat, u < M ∧ O.1 (k + 5) t = (u : Int) ∧ f u < n ∧ pc u = p ∧ u < p := by
        by_cases z : O.1 (k + 5) t = -1
        · exact Or.inl z
        · have q := hC.2.2.2.2.2.1 t (O.1 (k + 5) t).toNat h1 (by omega)
          rw [h4] at q
          exact Or.inr ⟨(O.1 (k + 5) t).toNat, by omega, by omega, by omega, q.1, by omega⟩
      -- those behind, and what is in them
      have bh : ∀ g, inC O k (O.1 (k + 5) t) g → g < M ∧ pc g = p ∧ f g < f t := fun g ⟨i, hi⟩ => by
        rcases hnext with z | ⟨u, u1, u2, u3, u4, _⟩
        · rw [z, snx_m i (by omega) rfl] at hi
          omega
        · rw [u2] at hi
          have q := inC_f hC i u g u1 hi
          have w := (hC.2.2.2.2.2.1 t u h1 u2).2.1
          exact ⟨q.1, by rw [q.2.1, u4], by omega⟩
      have itm : ∀ r, r < M → ∀ g, inC O k (O.1 (k + 4) r) g → g < M ∧ pc g = r := fun r hr g ⟨i, hi⟩ => by
        have q4 := hC.2.2.1 r hr
        by_cases z : O.1 (k + 4) r = -1
        · rw [z, snx_m i (by omega) rfl] at hi
          omega
        · obtain ⟨u, hu⟩ : ∃ u : Nat, O.1 (k + 4) r = (u : Int) := ⟨(O.1 (k + 4) r).toNat, by omega⟩
          rw [hu] at hi
          have q := inC_f hC i u g (by omega) hi
          exact ⟨q.1, by rw [q.2.1]; exact hC.2.2.2.2.1 r u hr hu⟩
      obtain ⟨S', w1, w2, w3⟩ := ih q' (O.1 (k + 5) t) (j + 1) S2 hnext (by omega) (by omega) (by omega) r2
      refine ⟨S', w1, ⟨fun r hr => ?_, fun a g g1 g2 => ?_⟩, w3⟩
      · rcases inC_s.mp hr with z | z
        · subst z
          have nr : ¬ inC O k (O.1 (k + 5) r) r := fun y => by
            have := (bh r y).2.2
            omega
          refine ⟨?_, fun g hg => ?_⟩
          · rw [w2.2 _ _ (fun y => nr y.2) (by omega), r4 _ _ (by omega), hS1, rd_eq]
          · have ig := itm r h1 g hg
            rw [w2.2 _ _ (by omega) ?_, r3 g hg]
            rintro ⟨_, y | ⟨r', y1, y2⟩⟩
            · have := (bh g y).2.1
              omega
            · have a := bh r' y1
              have b' := (itm r' a.1 g y2).2
              rw [ig.2] at b'
              rw [b'] at a
              omega
        · exact w2.1 r z
      · rw [w2.2 a g (fun y => g1 ⟨y.1, inC_s.mpr (Or.inr y.2)⟩) (fun y => g2 ⟨y.1, ?_⟩), r4 a g (fun y => g2 ⟨y.1, Or.inr ⟨t, inC_0, y.2⟩⟩), hS1, sp_pI1, if_neg (fun y => g1 ⟨y.1, by rw [y.2]; exact inC_0⟩), sp_pI1, if_neg (fun y => g2 ⟨y.1, Or.inl (by rw [y.2]; exact inC_0)⟩)]
        rcases y.2 with z | ⟨r', z1, z2⟩
        · exact Or.inl (inC_s.mpr (Or.inr z))
        · exact Or.inr ⟨r', inC_s.mpr (Or.inr z1), z2⟩
end RTIE2
