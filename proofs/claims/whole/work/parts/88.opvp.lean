/-! THE READER: nodes are tied, the whole -/
section RTIE3
variable {Q k n m w d N M D lv t b : Nat} {S O S0 S1 S' S2 U : ev_St} {f pc : Nat → Nat}
abbrev hrw (c : Int) : Prop := 16 ≤ c ∨ c = 8
theorem sp_62 {c : Int} : jm_62 Q c S = some (if c = 13 ∨ c = 14 then 1 else 0, S) := by
  unfold jm_62
  by_cases z1 : c = 13
  · rw [if_pos z1, if_pos (Or.inl z1)]
  · by_cases z2 : c = 14
    · rw [if_neg z1, if_neg (fun y => y z2), if_pos (Or.inr z2)]
    · rw [if_neg z1, if_pos z2, if_neg (by omega)]
theorem sp_64 {c : Int} : jm_64 Q c S = some (if hrw c then 1 else 0, S) := by
  unfold jm_64
  by_cases z1 : 16 ≤ c
  · rw [if_pos z1, if_pos (Or.inl z1)]
  · by_cases z2 : c = 8
    · rw [if_neg z1, if_neg (fun y => y z2), if_pos (Or.inr z2)]
    · rw [if_neg z1, if_pos z2, if_neg (by omega)]
/-- what the tie of one node comes to -/
def TI1 (k : Nat) (O S : ev_St) (b : Nat) : Prop := ((O.1 (k + 1) b = 13 ∨ O.1 (k + 1) b = 14) → ∀ c : Nat, O.1 (k + 4) b = (c : Int) → S.1 (k + 7) c = 4 * (b : Int) + 1) ∧ (hrw (O.1 (k + 1) b) → (∀ r : Nat, inC O k (O.1 (k + 4) b) r → S.1 (k + 6) r = BGv O k (4 * (b : Int) + 1) r ∧ ∀ g : Nat, inC O k (O.1 (k + 4) r) g → S.1 (k + 7) g = AFv O k (4 * (b : Int) + 1) g) ∧ ∀ r : Nat, O.1 (k + 4) b = (r : Int) → S.1 (k + 6) b = if 0 ≤ O.1 (k + 5) r then 4 * (r : Int) else BGv O k (4 * (b : Int) + 1) r)
theorem tie_all (hQ : 600 ≤ Q) (hk : ev_isOb k 5 = true) (hC : CTR k M pc f O) (hr : ∀ b : Nat, b < M → hrw (O.1 (k + 1) b) → ∀ r : Nat, inC O k (O.1 (k + 4) b) r → O.1 (k + 1) r = 15) : ∀ (n q x : Nat) (S : ev_St), M - x = n → x ≤ M → n < q → TIi k O S → (∀ b : Nat, b < x → TI1 k O S b) → (∀ g : Nat, O.1 (k + 7) g = -1 → (∀ b : Nat, b < M → pc g = b → x ≤ b) → S.1 (k + 7) g = S.1 (k + 7) g) → ∃ S', jl_67_2 Q k q (x : Int) S = some ((), S') ∧ TIi k O S' ∧ (∀ b : Nat, b < M → TI1 k O S' b) ∧ ∀ (a g : Nat), (∀ b : Nat, b < M → ¬ (O.1 (k + 4) b = (g : Int))) → (∀ b : Nat, b < M → ¬ (O.1 (k + 5) b = (g : Int))) → a = k + 7 → S'.1 a g = S.1 a g := fun n => by
  obtain ⟨l1, l2, l3, l4, l5, l6, l7, l8, l9⟩ := al_Pt hk
  have hM := hC.2.1
  have itm : ∀ r : Nat, r < M → ∀ g : Nat, inC O k (O.1 (k + 4) r) g → g < M ∧ pc g = r ∧ ((∃ b, b < M ∧ O.1 (k + 4) b = (g : Int)) ∨ ∃ b, b < M ∧ O.1 (k + 5) b = (g : Int)) := fun r hr g ⟨i, hi⟩ => by
    have q4 := hC.2.2.1 r hr
    by_cases z : O.1 (k + 4) r = -1
    · rw [z, snx_m i (by omega) rfl] at hi
      omega
    · obtain ⟨u, hu⟩ : ∃ u : Nat, O.1 (k + 4) r = (u : Int) := ⟨(O.1 (k + 4) r).toNat, by omega⟩
      rw [hu] at hi
      have q := inC_f hC i u g (by omega) hi
      refine ⟨q.1, by rw [q.2.1]; exact hC.2.2.2.2.1 r u hr hu, ?_⟩
      have last : ∀ (i x : Nat), x < M → snx O k i (x : Int) = (g : Int) → g = x ∨ ∃ b, b < M ∧ O.1 (k + 5) b = (g : Int) := fun i => by
        induction i with
        | zero =>
          intro x _ h
          have : (x : Int) = (g : Int) := h
          exact Or.inl (by omega)
        | succ i ih =>
          intro x hx h
          have h' : (if (x : Int) < 0 then (-1 : Int) else snx O k i (O.1 (k + 5) (x : Int).toNat)) = (g : Int) := h
          rw [if_neg (by omega), Int.toNat_natCast] at h'
          have s := hC.2.2.2.1 x hx
          by_cases e : O.1 (k + 5) x = -1
          · rw [e, snx_m i (by omega) rfl] at h'
            omega
          · obtain ⟨y, hy⟩ : ∃ y : Nat, O.1 (k + 5) x = (y : Int) := ⟨(O.1 (k + 5) x).toNat, by omega⟩
            rw [hy] at h'
            rcases ih y (by omega) h' with w | w
            · exact Or.inr ⟨x, hx, by rw [hy, w]⟩
            · exact Or.inr w
      rcases last i u (by omega) hi with w | w
      · exact Or.inl ⟨r, hr, by rw [hu, w]⟩
      · exact Or.inr w
  induction n with
  | zero =>
    intro q x S hn hx hq hS hT _
    obtain ⟨q', rfl⟩ : ∃ q', q = q' + 1 := ⟨q - 1, by omega⟩
    have e : x = M := by omega
    subst e
    refine ⟨S, ?_, hS, hT, fun _ _ _ _ _ => rfl⟩
    show jb_67_2 Q k _ _ _ = _
    unfold jb_67_2
    rw [hS.1 k 11 (by omega) (by omega), hC.1, sp_b, if_pos (Int.le_refl _)]
  | succ n ih =>
    intro q x S hn hx hq hS hT hz
    obtain ⟨q', rfl⟩ : ∃ q', q = q' + 1 := ⟨q - 1, by omega⟩
    have hxM : x < M := by omega
    have c4 := hC.2.2.1 x hxM
    have e1 : S.1 (k + 1) x = O.1 (k + 1) x := hS.1 _ _ (by omega) (by omega)
    have e4 : S.1 (k + 4) x = O.1 (k + 4) x := hS.1 _ _ (by omega) (by omega)
    have e11 : S.1 k 11 = (M : Int) := by rw [hS.1 k 11 (by omega) (by omega), hC.1]
    -- what one node's tie writes
    have go : ∀ S2, TIi k O S2 → TI1 k O S2 x → (∀ (a g : Nat), S2.1 a g ≠ S.1 a g → (a = k + 7 ∧ ((pc g = x ∧ (O.1 (k + 1) x = 13 ∨ O.1 (k + 1) x = 14) ∧ O.1 (k + 4) x = (g : Int)) ∨ (hrw (O.1 (k + 1) x) ∧ (inC O k (O.1 (k + 4) x) g ∨ ∃ r, inC O k (O.1 (k + 4) x) r ∧ inC O k (O.1 (k + 4) r) g)))) ∨ (a = k + 6 ∧ hrw (O.1 (k + 1) x) ∧ (g = x ∨ inC O k (O.1 (k + 4) x) g))) → jl_67_2 Q k (q' + 1) (x : Int) S = jl_67_2 Q k q' ((x + 1 : Nat) : Int) S2 → ∃ S', jl_67_2 Q k (q' + 1) (x : Int) S = some ((), S') ∧ TIi k O S' ∧ (∀ b : Nat, b < M → TI1 k O S' b) ∧ ∀ (a g : Nat), (∀ b : Nat, b < M → ¬ (O.1 (k + 4) b = (g : Int))) → (∀ b : Nat, b < M → ¬ (O.1 (k + 5) b = (g : Int))) → a = k + 7 → S'.1 a g = S.1 a g := fun S2 h1 h2 h3 h4 => by
      -- nothing of those ahead is changed
      have keep : ∀ b : Nat, b < x → TI1 k O S2 b := fun b hb => by
        have hbM : b < M := by omega
        have tb := hT b hb
        -- cells that belong to b
        have k7 : ∀ g : Nat, ((O.1 (k + 1) b = 13 ∨ O.1 (k + 1) b = 14) ∧ O.1 (k + 4) b = (g : Int)) ∨ (hrw (O.1 (k + 1) b) ∧ ∃ r, inC O k (O.1 (k + 4) b) r ∧ inC O k (O.1 (k + 4) r) g) → S2.1 (k + 7) g = S.1 (k + 7) g := fun g hg => by
          by_cases z : S2.1 (k + 7) g = S.1 (k + 7) g
          · exact z
          · exfalso
            rcases h3 _ _ z with ⟨_, w⟩ | ⟨w, _⟩
            · rcases hg with ⟨g1, g2⟩ | ⟨g1, r, g2, g3⟩
              · have pb := hC.2.2.2.2.1 b g hbM g2
                rcases w with ⟨w1, _, _⟩ | ⟨w1, w2 | ⟨r', w2, w3⟩⟩
                · omega
                · have := (itm x hxM g w2).2.1
                  omega
                · have r'M := (itm x hxM r' w2).1
                  have := (itm r' r'M g w3).2.1
                  have k15 := hr x hxM w1 r' w2
                  have : r' = b := by omega
                  subst this
                  omega
              · have rb := itm b hbM r g2
                have gr := (itm r rb.1 g g3).2.1
                have k15 := hr b hbM g1 r g2
                rcases w with ⟨w1, w2, _⟩ | ⟨w1, w2 | ⟨r', w2, w3⟩⟩
                · have : r = x := by omega
                  subst this
                  omega
                · have := (itm x hxM g w2).2.1
                  have : r = x := by omega
                  subst this
                  omega
                · have r'x := itm x hxM r' w2
                  have := (itm r' r'x.1 g w3).2.1
                  have : r = r' := by omega
                  subst this
                  omega
            · omega
        have k6 : ∀ g : Nat, hrw (O.1 (k + 1) b) → g = b ∨ inC O k (O.1 (k + 4) b) g → S2.1 (k + 6) g = S.1 (k + 6) g := fun g g1 hg => by
          by_cases z : S2.1 (k + 6) g = S.1 (k + 6) g
          · exact z
          · exfalso
            rcases h3 _ _ z with ⟨w, _⟩ | ⟨_, w1, w2⟩
            · omega
            · rcases hg with hg | hg
              · subst hg
                rcases w2 with w2 | w2
                · omega
                · have := hr x hxM w1 g w2
                  omega
              · have gb := (itm b hbM g hg).2.1
                have k15 := hr b hbM g1 g hg
                rcases w2 with w2 | w2
                · subst w2
                  omega
                · have := (itm x hxM g w2).2.1
                  omega
        refine ⟨fun z c hc => by rw [k7 c (Or.inl ⟨z, hc⟩)]; exact tb.1 z c hc, fun z => ⟨fun r hr' => ⟨by rw [k6 r z (Or.inr hr')]; exact ((tb.2 z).1 r hr').1, fun g hg => by rw [k7 g (Or.inr ⟨z, r, hr', hg⟩)]; exact ((tb.2 z).1 r hr').2 g hg⟩, fun r hr' => by rw [k6 b z (Or.inl rfl)]; exact (tb.2 z).2 r hr'⟩⟩
      rw [h4]
      obtain ⟨S', r1, r2, r3, r4⟩ := ih q' (x + 1) S2 (by omega) (by omega) (by omega) h1 (fun b hb => by
        by_cases e : b = x
        · rw [e]
          exact h2
        · exact keep b (by omega)) (fun _ _ _ => rfl)
      refine ⟨S', r1, r2, r3, fun a g n4 n5 ha => ?_⟩
      rw [r4 a g n4 n5 ha]
      by_cases z : S2.1 a g = S.1 a g
      · exact z
      · exfalso
        have ab : ∀ r : Nat, r < M → inC O k (O.1 (k + 4) r) g → False := fun r hr' hg => by
          rcases (itm r hr' g hg).2.2 with ⟨b, b1, b2⟩ | ⟨b, b1, b2⟩
          · exact n4 b b1 b2
          · exact n5 b b1 b2
        rcases h3 _ _ z with ⟨_, w⟩ | ⟨w, _⟩
        · rcases w with ⟨_, _, w⟩ | ⟨_, w | ⟨r, w1, w2⟩⟩
          · exact n4 x hxM w
          · exact ab x hxM w
          · exact ab r (itm x hxM r w1).1 w2
        · omega
    have hd : ∀ {A}, (ev_jn (fun  (s16 : ev_St) => ev_ck ((x : Int) + 1) fun x17 => jl_67_2 Q k q' x17 s16) fun K75 => ev_jn (fun  (s21 : ev_St) => ev_if ((0 : Int) ≤ (x : Int) ∧ (x : Int) < (ev_aln ((k + 1)) : Int)) (ev_b (s21.1 ((k + 1)) x) fun x22 => ev_bd (jm_64 Q x22 s21) fun x24 s23 => if x24 = 0 then (K75  s23) else (ev_bd (jm_68 Q k (x : Int) s23) fun _ s26 => K75  s26))) fun K58 => if (if O.1 (k + 1) x = 13 ∨ O.1 (k + 1) x = 14 then (1 : Int) else 0) = 0 then (K58  S) else (ev_bd (jm_59 Q k (O.1 (k + 4) x) S) fun x29 s28 => if x29 = 0 then (K58  s28) else (ev_ck (4 * (x : Int)) fun x31 => ev_ck (x31 + 1) fun x32 => ev_if ((0 : Int) ≤ O.1 (k + 4) x ∧ O.1 (k + 4) x < (ev_aln ((k + 7)) : Int)) (ev_b (ev_pI s28 ((k + 7)) (Int.toNat (O.1 (k + 4) x)) x32) fun s33 => K75  s33)))) = A → jl_67_2 Q k (q' + 1) (x : Int) S = A := fun {A} hA => by
      rw [← hA]
      show jb_67_2 Q k _ _ _ = _
      unfold jb_67_2
      rw [e11, sp_b, if_neg (by omega), if_neg (by omega), sp_if (by rw [l4]; omega), Int.toNat_natCast, e4, sp_b, sp_if (by rw [l1]; omega), e1, sp_b, sp_62, sp_bd]
    have x1 : (x : Int) + 1 = ((x + 1 : Nat) : Int) := by omega
    by_cases kr : O.1 (k + 1) x = 13 ∨ O.1 (k + 1) x = 14
    · have nh : ¬ hrw (O.1 (k + 1) x) := by omega
      by_cases z : O.1 (k + 4) x = -1
      · -- nothing in it
        refine go S hS ⟨fun _ c hc => by omega, fun h => absurd h nh⟩ (fun a g h => absurd rfl h) (hd ?_)
        rw [sp_jn, sp_jn, if_pos kr, if_neg (by decide), sp_59, if_neg (by omega), sp_bd, if_pos rfl]
        try dsimp only
        rw [sp_if (by rw [l1]; omega), e1, sp_b, sp_64, if_neg nh, sp_bd, if_pos rfl]
        try dsimp only
        rw [sp_ck (by omega), x1]
      · obtain ⟨c, hc⟩ : ∃ c : Nat, O.1 (k + 4) x = (c : Int) := ⟨(O.1 (k + 4) x).toNat, by omega⟩
        refine go (ev_pI S (k + 7) c (4 * (x : Int) + 1)) ⟨fun a g ha hb => by rw [sp_pI1, if_neg (by omega)]; exact hS.1 a g ha hb, hS.2⟩ ⟨fun _ c' hc' => ?_, fun h => absurd h nh⟩ (fun a g h => ?_) (hd ?_)
        · have : c' = c := by omega
          rw [this, rd_eq]
        · by_cases w : a = k + 7 ∧ g = c
          · rw [w.2]
            exact Or.inl ⟨w.1, Or.inl ⟨hC.2.2.2.2.1 x c hxM hc, kr, hc⟩⟩
          · rw [sp_pI1, if_neg w] at h
            exact absurd rfl h
        · rw [sp_jn, sp_jn, if_pos kr, if_neg (by decide), sp_59, if_pos (by rw [e11]; omega), sp_bd, if_neg (by decide), sp_ck (by omega), sp_ck (by omega), sp_if (by rw [l7]; omega), sp_b, hc, Int.toNat_natCast]
          try dsimp only
          rw [sp_ck (by omega), x1]
    · by_cases nh : hrw (O.1 (k + 1) x)
      · -- rows
        have hrow : O.1 (k + 4) x = -1 ∨ ∃ t : Nat, t < M ∧ O.1 (k + 4) x = (t : Int) ∧ f t < 390 ∧ pc t = x ∧ t < x := by
          by_cases z : O.1 (k + 4) x = -1
          · exact Or.inl z
          · refine Or.inr ⟨(O.1 (k + 4) x).toNat, by omega, by omega, hC.2.2.2.2.2.2 _ (by omega), hC.2.2.2.2.1 x _ hxM (by omega), by omega⟩
        have fin : ∀ S', TIi k O S' → RWp k O (4 * (x : Int) + 1) (O.1 (k + 4) x) S S' → ∃ S2, tieT Q k (x : Int) S' = some ((), S2) ∧ TIi k O S2 ∧ TI1 k O S2 x ∧ ∀ (a g : Nat), S2.1 a g ≠ S.1 a g → (a = k + 7 ∧ ((pc g = x ∧ (O.1 (k + 1) x = 13 ∨ O.1 (k + 1) x = 14) ∧ O.1 (k + 4) x = (g : Int)) ∨ (hrw (O.1 (k + 1) x) ∧ (inC O k (O.1 (k + 4) x) g ∨ ∃ r, inC O k (O.1 (k + 4) x) r ∧ inC O k (O.1 (k + 4) r) g)))) ∨ (a = k + 6 ∧ hrw (O.1 (k + 1) x) ∧ (g = x ∨ inC O k (O.1 (k + 4) x) g)) := fun S' h1 h2 => by
          unfold tieT
          rw [sp_if (by rw [l4]; omega), Int.toNat_natCast, h1.1 (k + 4) x (by omega) (by omega), sp_b, sp_59]
          have dif : ∀ (a g : Nat), S'.1 a g ≠ S.1 a g → (a = k + 7 ∧ ((pc g = x ∧ (O.1 (k + 1) x = 13 ∨ O.1 (k + 1) x = 14) ∧ O.1 (k + 4) x = (g : Int)) ∨ (hrw (O.1 (k + 1) x) ∧ (inC O k (O.1 (k + 4) x) g ∨ ∃ r, inC O k (O.1 (k + 4) x) r ∧ inC O k (O.1 (k + 4) r) g)))) ∨ (a = k + 6 ∧ hrw (O.1 (k + 1) x) ∧ (g = x ∨ inC O k (O.1 (k + 4) x) g)) := fun a g h => by
            by_cases y1 : a = k + 6 ∧ inC O k (O.1 (k + 4) x) g
            · exact Or.inr ⟨y1.1, nh, Or.inr y1.2⟩
            · by_cases y2 : a = k + 7 ∧ (inC O k (O.1 (k + 4) x) g ∨ ∃ r, inC O k (O.1 (k + 4) x) r ∧ inC O k (O.1 (k + 4) r) g)
              · exact Or.inl ⟨y2.1, Or.inr ⟨nh, y2.2⟩⟩
              · exact absurd (h2.2 a g y1 y2) h
          by_cases z : O.1 (k + 4) x = -1
          · rw [if_neg (by omega), sp_bd, if_pos rfl]
            exact ⟨S', rfl, h1, ⟨fun h => absurd h kr, fun _ => ⟨h2.1, fun r hr' => by omega⟩⟩, dif⟩
          · obtain ⟨c, hc⟩ : ∃ c : Nat, O.1 (k + 4) x = (c : Int) := ⟨(O.1 (k + 4) x).toNat, by omega⟩
            have s5 := hC.2.2.2.1 c (by omega)
            have nx : ¬ inC O k (O.1 (k + 4) x) x := fun y => by
              have := hr x hxM nh x y
              omega
            have tail : ∀ v : Int, v = (if 0 ≤ O.1 (k + 5) c then 4 * (c : Int) else BGv O k (4 * (x : Int) + 1) c) → TIi k O (ev_pI S' (k + 6) x v) ∧ TI1 k O (ev_pI S' (k + 6) x v) x ∧ ∀ (a g : Nat), (ev_pI S' (k + 6) x v).1 a g ≠ S.1 a g → (a = k + 7 ∧ ((pc g = x ∧ (O.1 (k + 1) x = 13 ∨ O.1 (k + 1) x = 14) ∧ O.1 (k + 4) x = (g : Int)) ∨ (hrw (O.1 (k + 1) x) ∧ (inC O k (O.1 (k + 4) x) g ∨ ∃ r, inC O k (O.1 (k + 4) x) r ∧ inC O k (O.1 (k + 4) r) g)))) ∨ (a = k + 6 ∧ hrw (O.1 (k + 1) x) ∧ (g = x ∨ inC O k (O.1 (k + 4) x) g)) := fun v hv => by
              refine ⟨⟨fun a g ha hb => by rw [sp_pI1, if_neg (by omega)]; exact h1.1 a g ha hb, h1.2⟩, ⟨fun h => absurd h kr, fun _ => ⟨fun r hr' => ⟨?_, fun g hg => by rw [rd_nk (by omega)]; exact (h2.1 r hr').2 g hg⟩, fun r hr' => ?_⟩⟩, fun a g h => ?_⟩
              · rw [rd_nf (fun e => nx (by rw [e] at hr'; exact hr'))]
                exact (h2.1 r hr').1
              · have : r = c := by omega
                rw [rd_eq, hv, this]
              · by_cases w : a = k + 6 ∧ g = x
                · exact Or.inr ⟨w.1, nh, Or.inl w.2⟩
                · rw [sp_pI1, if_neg w] at h
                  exact dif a g h
            have bc := (h2.1 c (by rw [hc]; exact inC_0)).1
            rw [if_pos (by rw [h1.1 k 11 (by omega) (by omega), hC.1]; omega), sp_bd, if_neg (by decide), sp_if (by rw [l5]; omega), hc, Int.toNat_natCast, h1.1 (k + 5) c (by omega) (by omega), sp_b]
            rw [hc] at tail
            by_cases y : 0 ≤ O.1 (k + 5) c
            · rw [if_pos y, sp_ck (by omega), sp_ck (by omega), sp_if (by rw [l6]; omega), sp_b, Int.add_zero]
              exact ⟨_, rfl, tail _ (by rw [if_pos y])⟩
            · rw [if_neg y, sp_if (by rw [l6]; omega), bc, sp_b, sp_if (by rw [l6]; omega), sp_b]
              exact ⟨_, rfl, tail _ (by rw [if_neg y])⟩
        have run : ∃ S2, jm_68 Q k (x : Int) S = some ((), S2) ∧ TIi k O S2 ∧ TI1 k O S2 x ∧ ∀ (a g : Nat), S2.1 a g ≠ S.1 a g → (a = k + 7 ∧ ((pc g = x ∧ (O.1 (k + 1) x = 13 ∨ O.1 (k + 1) x = 14) ∧ O.1 (k + 4) x = (g : Int)) ∨ (hrw (O.1 (k + 1) x) ∧ (inC O k (O.1 (k + 4) x) g ∨ ∃ r, inC O k (O.1 (k + 4) x) r ∧ inC O k (O.1 (k + 4) r) g)))) ∨ (a = k + 6 ∧ hrw (O.1 (k + 1) x) ∧ (g = x ∨ inC O k (O.1 (k + 4) x) g)) := by
          obtain ⟨S', w1, w2, w3⟩ := tie_rows (Q := Q) (e := 4 * (x : Int) + 1) (p := x) (by omega) hk hC (by omega) hxM 390 Q (O.1 (k + 4) x) 0 S hrow (by omega) (by omega) (by omega) hS
          obtain ⟨S2, z1, z2⟩ := fin S' w1 w2
          refine ⟨S2, ?_, z2⟩
          unfold jm_68
          rw [sp_ck (by omega), sp_ck (by omega), sp_if (by rw [l4]; omega), Int.toNat_natCast, e4, sp_b, w3, z1]
        obtain ⟨S2, z1, z2, z3, z4⟩ := run
        refine go S2 z2 z3 z4 (hd ?_)
        rw [sp_jn, sp_jn, if_neg kr, if_pos rfl]
        try dsimp only
        rw [sp_if (by rw [l1]; omega), e1, sp_b, sp_64, if_pos nh, sp_bd, if_neg (by decide), z1, sp_bd]
        try dsimp only
        rw [sp_ck (by omega), x1]
      · refine go S hS ⟨fun h => absurd h kr, fun h => absurd h nh⟩ (fun a g h => absurd rfl h) (hd ?_)
        rw [sp_jn, sp_jn, if_neg kr, if_pos rfl]
        try dsimp only
        rw [sp_if (by rw [l1]; omega), e1, sp_b, sp_64, if_neg nh, sp_bd, if_pos rfl]
        try dsimp only
        rw [sp_ck (by omega), x1]
end RTIE3
