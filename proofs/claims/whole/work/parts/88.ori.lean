/-! STREAMS: the reference adds a thread -/
section ORI
variable {Q p pc f k m n o t tt : Nat} {S U U1 V W : ev_St} {P : Nat → T3} {A : SNs} {c : CPs} {out rs : LFs} {fr : Int} {K17 : Int → Int → ev_St → Option (Unit × ev_St)}
theorem al_317 : ev_aln 662 = 2520 ∧ ev_aln 663 = 2520 ∧ ev_aln 664 = 2520 ∧ ev_aln 669 = 17010 ∧ ev_aln 670 = 40000 ∧ ev_aln 674 = 420 ∧ ev_aln 675 = 420 := by decide +kernel
theorem ra_seen (h670 : U.1 670 t = (pc : Int)) (ht : t < 39990) (hp : pc < 210) (hs : U.1 669 pc ≠ 0) : jb_317_17 Q fr K17 (210 * (p : Int)) ((t : Int) + 1) U = K17 (210 * (p : Int)) (t : Int) U := by
  obtain ⟨l2, l3, l4, l69, l70, l74, l75⟩ := al_317
  unfold jb_317_17
  rw [if_neg (by omega), show (t : Int) + 1 + (-1) = (t : Int) from by omega, sp_ck (by omega), sp_if (by rw [l70]; omega), sp_b, Int.toNat_natCast, h670, sp_if (by rw [l69]; omega), sp_b, Int.toNat_natCast, sp_jn, if_pos hs]
theorem ra_leaf (h670 : U.1 670 t = (pc : Int)) (ht : t < 39990) (hp : pc < 210) (hp2 : p < 12) (hs : U.1 669 pc = 0) (ho : U.1 662 (210 * p + pc) = 0 ∨ U.1 662 (210 * p + pc) = 5) (h68 : U.1 621 68 = (o : Int)) (ho2 : o < 420) : jb_317_17 Q fr K17 (210 * (p : Int)) ((t : Int) + 1) U = K17 (210 * (p : Int)) (t : Int) (ev_pI (ev_pI (ev_pI (ev_pI U 669 pc 1) 674 o (pc : Int)) 675 o fr) 621 68 ((o : Int) + 1)) := by
  obtain ⟨l2, l3, l4, l69, l70, l74, l75⟩ := al_317
  unfold jb_317_17
  rw [if_neg (by omega), show (t : Int) + 1 + (-1) = (t : Int) from by omega, sp_ck (by omega), sp_if (by rw [l70]; omega), sp_b, Int.toNat_natCast, h670, sp_if (by rw [l69]; omega), sp_b, Int.toNat_natCast, sp_jn, if_neg (fun z => z hs), sp_if (by rw [l69]; omega), sp_b, sp_ck (by omega), sp_if (by rw [l2]; omega), sp_b, show (210 * (p : Int) + (pc : Int)).toNat = 210 * p + pc from by omega, rd_nk (by decide), sp_jn]
  have fin : (ev_b ((ev_pI U 669 pc 1).1 621 68) fun x32 => ev_if ((0 : Int) ≤ x32 ∧ x32 < (ev_aln 674 : Int)) (ev_b (ev_pI (ev_pI U 669 pc 1) 674 (Int.toNat x32) (pc : Int)) fun s33 => ev_b (s33.1 621 68) fun x34 => ev_if ((0 : Int) ≤ x34 ∧ x34 < (ev_aln 675 : Int)) (ev_b (ev_pI s33 675 (Int.toNat x34) fr) fun s35 => ev_b (s35.1 621 68) fun x36 => ev_ck (x36 + 1) fun x37 => ev_b (ev_pI s35 621 68 x37) fun s38 => K17 (210 * (p : Int)) (t : Int) s38))) = K17 (210 * (p : Int)) (t : Int) (ev_pI (ev_pI (ev_pI (ev_pI U 669 pc 1) 674 o (pc : Int)) 675 o fr) 621 68 ((o : Int) + 1)) := by
    rw [sp_b, rd_nk (by decide), h68, sp_if (by rw [l74]; omega), sp_b, Int.toNat_natCast, sp_b, rd_nk (by decide), rd_nk (by decide), h68, sp_if (by rw [l75]; omega), sp_b, Int.toNat_natCast, sp_b, rd_nk (by decide), rd_nk (by decide), rd_nk (by decide), h68, sp_ck (by omega), sp_b]
  rcases ho with y | y
  · rw [if_pos y]
    exact fin
  · rw [if_neg (by omega), if_neg (fun z => z y)]
    exact fin
theorem ra_fork {a b : Nat} (h670 : U.1 670 t = (pc : Int)) (ht : t < 39990) (hp : pc < 210) (hp2 : p < 12) (hs : U.1 669 pc = 0) (ho : U.1 662 (210 * p + pc) = 2) (h3 : U.1 663 (210 * p + pc) = (a : Int)) (h4 : U.1 664 (210 * p + pc) = (b : Int)) : jb_317_17 Q fr K17 (210 * (p : Int)) ((t : Int) + 1) U = K17 (210 * (p : Int)) ((t : Int) + 1 + 1) (ev_pI (ev_pI (ev_pI U 669 pc 1) 670 t (b : Int)) 670 (t + 1) (a : Int)) := by
  obtain ⟨l2, l3, l4, l69, l70, l74, l75⟩ := al_317
  unfold jb_317_17
  rw [if_neg (by omega), show (t : Int) + 1 + (-1) = (t : Int) from by omega, sp_ck (by omega), sp_if (by rw [l70]; omega), sp_b, Int.toNat_natCast, h670, sp_if (by rw [l69]; omega), sp_b, Int.toNat_natCast, sp_jn, if_neg (fun z => z hs), sp_if (by rw [l69]; omega), sp_b, sp_ck (by omega), sp_if (by rw [l2]; omega), sp_b, show (210 * (p : Int) + (pc : Int)).toNat = 210 * p + pc from by omega, rd_nk (by decide), sp_jn, ho, if_neg (by decide), if_pos (by decide), sp_jn, if_neg (by decide), sp_ck (by omega), sp_if (by rw [l4]; omega), sp_b, show (210 * (p : Int) + (pc : Int)).toNat = 210 * p + pc from by omega, rd_nk (by decide), h4, sp_if (by rw [l70]; omega), sp_b, sp_ck (by omega)]
  try dsimp only
  rw [sp_jn]
  try dsimp only
  rw [if_pos (by decide), sp_ck (by omega), sp_if (by rw [l3]; omega), sp_b, show (210 * (p : Int) + (pc : Int)).toNat = 210 * p + pc from by omega, rd_nk (by decide), rd_nk (by decide), h3, sp_if (by rw [l70]; omega), sp_b, show ((t : Int) + 1).toNat = t + 1 from by omega, sp_ck (by omega)]
theorem ra_jump (h670 : U.1 670 t = (pc : Int)) (ht : t < 39990) (hp : pc < 210) (hp2 : p < 12) (hs : U.1 669 pc = 0) (ho : (U.1 662 (210 * p + pc) = 3 ∧ U.1 663 (210 * p + pc) = (tt : Int)) ∨ (U.1 662 (210 * p + pc) = 4 ∧ tt = pc + 1)) : jb_317_17 Q fr K17 (210 * (p : Int)) ((t : Int) + 1) U = K17 (210 * (p : Int)) ((t : Int) + 1) (ev_pI (ev_pI U 669 pc 1) 670 t (tt : Int)) := by
  obtain ⟨l2, l3, l4, l69, l70, l74, l75⟩ := al_317
  unfold jb_317_17
  rw [if_neg (by omega), show (t : Int) + 1 + (-1) = (t : Int) from by omega, sp_ck (by omega), sp_if (by rw [l70]; omega), sp_b, Int.toNat_natCast, h670, sp_if (by rw [l69]; omega), sp_b, Int.toNat_natCast, sp_jn, if_neg (fun z => z hs), sp_if (by rw [l69]; omega), sp_b, sp_ck (by omega), sp_if (by rw [l2]; omega), sp_b, show (210 * (p : Int) + (pc : Int)).toNat = 210 * p + pc from by omega, rd_nk (by decide), sp_jn]
  rcases ho with ⟨y, z⟩ | ⟨y, z⟩
  · rw [y, if_neg (by decide), if_pos (by decide), sp_jn, if_pos (by decide)]
    try dsimp only
    rw [sp_jn]
    try dsimp only
    rw [if_pos (by decide), sp_ck (by omega), sp_if (by rw [l3]; omega), sp_b, show (210 * (p : Int) + (pc : Int)).toNat = 210 * p + pc from by omega, rd_nk (by decide), z, sp_if (by rw [l70]; omega), sp_b, Int.toNat_natCast, sp_ck (by omega)]
  · rw [y, if_neg (by decide), if_pos (by decide), sp_jn, if_pos (by decide)]
    try dsimp only
    rw [sp_jn]
    try dsimp only
    rw [if_neg (by decide), sp_ck (by omega), show (pc : Int) + 1 = (tt : Int) from by omega, sp_if (by rw [l70]; omega), sp_b, Int.toNat_natCast, sp_ck (by omega)]
def FRa (U V : ev_St) : Prop := (∀ c i, ¬ (c = 621 ∧ i = 68) → ¬ (669 ≤ c ∧ c ≤ 670) → ¬ (674 ≤ c ∧ c ≤ 675) → V.1 c i = U.1 c i) ∧ V.2 = U.2
theorem FRa_r : FRa S S := ⟨fun _ _ _ _ _ => rfl, rfl⟩
theorem FRa_t (h : FRa S U) (h2 : FRa U V) : FRa S V := ⟨fun x i a b c => (h2.1 x i a b c).trans (h.1 x i a b c), h2.2.trans h.2⟩
theorem FRa_w {x a : Nat} {v : Int} (h : (x = 621 ∧ a = 68) ∨ (669 ≤ x ∧ x ≤ 670) ∨ (674 ≤ x ∧ x ≤ 675)) : FRa S (ev_pI S x a v) := ⟨fun y j h1 h2 h3 => by
  rw [sp_pI1, if_neg]
  rintro ⟨rfl, rfl⟩
  omega, rfl⟩
/-- threads that stand, as the reference keeps them -/
def RTh (n : Nat) (A : SNs) (out : LFs) (U : ev_St) : Prop := (∀ i, i < n → (A i = true ↔ U.1 669 i ≠ 0)) ∧ U.1 621 68 = (out.length : Int) ∧ ∀ (j q : Nat) (d : CPs), out[j]? = some (q, d) → U.1 674 j = (q : Int) ∧ U.1 675 j = d 0
theorem RTh_on (h : RTh n A out U) (hp : pc < n) : RTh n (onB A pc) out (ev_pI U 669 pc 1) := ⟨fun i hi => by
  by_cases e : i = pc
  · rw [e, ev_pI_eq, show onB A pc pc = true from if_pos rfl]
    simp
  · rw [ev_pI_ne2 e, show onB A pc i = A i from if_neg e]
    exact h.1 i hi, (rd_nk (by decide)).trans h.2.1, fun j q d hj => ⟨(rd_nk (by decide)).trans (h.2.2 j q d hj).1, (rd_nk (by decide)).trans (h.2.2 j q d hj).2⟩⟩
theorem RTh_p {a : Nat} {v : Int} (h : RTh n A out U) : RTh n A out (ev_pI U 670 a v) := ⟨fun i hi => by
  rw [rd_nk (by decide)]
  exact h.1 i hi, (rd_nk (by decide)).trans h.2.1, fun j q d hj => ⟨(rd_nk (by decide)).trans (h.2.2 j q d hj).1, (rd_nk (by decide)).trans (h.2.2 j q d hj).2⟩⟩
theorem ra_dfs {E : Int → Bool} (hp2 : p < 12) (hw : wfP P n) (hn : n ≤ 210) (h1 : ∀ i, i < n → (P i).1 ≠ 1) (hP : ∀ i, i < n → rd3 662 663 664 (210 * p + i) S (P i)) : ∀ (f pc : Nat) (c : CPs) (A : SNs) (out : LFs) (U : ev_St) (t : Nat), pc < n → cnf A n ≤ f → c 0 = fr → FRa S U → RTh n A out U → U.1 670 t = (pc : Int) → out.length + cnf A n ≤ 420 → t + cnf A n ≤ 39980 → ∃ m V, (∀ q, jl_317_17 Q fr (q + m) (210 * (p : Int)) ((t : Int) + 1) U = jl_317_17 Q fr q (210 * (p : Int)) (t : Int) V) ∧ FRa S V ∧ RTh n (dfs P E k f pc c A).2 (out ++ (dfs P E k f pc c A).1) V ∧ (∀ j, j < t → V.1 670 j = U.1 670 j) ∧ m + 2 * cnf (dfs P E k f pc c A).2 n ≤ 2 * cnf A n + 1 := fun f => by
  have turn : ∀ (q : Nat) (x3 : Int) (U : ev_St), jl_317_17 Q fr (q + 1) (210 * (p : Int)) x3 U = jb_317_17 Q fr (jl_317_17 Q fr q) (210 * (p : Int)) x3 U := fun _ _ _ => rfl
  have seen : ∀ (f pc : Nat) (c : CPs) (A : SNs) (out : LFs) (U : ev_St) (t : Nat), pc < n → FRa S U → RTh n A out U → U.1 670 t = (pc : Int) → t ≤ 39980 → A pc = true → (dfs P E k f pc c A) = ([], A) → ∃ m V, (∀ q, jl_317_17 Q fr (q + m) (210 * (p : Int)) ((t : Int) + 1) U = jl_317_17 Q fr q (210 * (p : Int)) (t : Int) V) ∧ FRa S V ∧ RTh n (dfs P E k f pc c A).2 (out ++ (dfs P E k f pc c A).1) V ∧ (∀ j, j < t → V.1 670 j = U.1 670 j) ∧ m + 2 * cnf (dfs P E k f pc c A).2 n ≤ 2 * cnf A n + 1 := fun f pc c A out U t hp hF hR h670 ht z e => by
    rw [e]
    refine ⟨1, U, fun q => ?_, hF, by rw [List.append_nil]; exact hR, fun _ _ => rfl, by show 1 + 2 * cnf A n ≤ _; omega⟩
    rw [turn, ra_seen h670 (by omega) (by omega) ((hR.1 pc hp).mp z)]
  induction f with
  | zero =>
    intro pc c A out U t hp hf hc hF hR h670 ho ht
    exact seen 0 pc c A out U t hp hF hR h670 (by omega) (cnf_0 (by omega) hp) rfl
  | succ f ih =>
    intro pc c A out U t hp hf hc hF hR h670 ho ht
    by_cases z : A pc = true
    · exact seen (f + 1) pc c A out U t hp hF hR h670 (by omega) z (by rw [dfs_s, if_pos z])
    · have z' : A pc = false := by simpa using z
      have on := cnf_on z' n hp
      have hs : U.1 669 pc = 0 := Classical.byContradiction fun y => z ((hR.1 pc hp).mpr y)
      obtain ⟨p1, p2, p3⟩ := hP pc hp
      have q1 : U.1 662 (210 * p + pc) = (P pc).1 := (hF.1 _ _ (by omega) (by omega) (by omega)).trans p1
      have q2 : U.1 663 (210 * p + pc) = (P pc).2.1 := (hF.1 _ _ (by omega) (by omega) (by omega)).trans p2
      have q3 : U.1 664 (210 * p + pc) = (P pc).2.2 := (hF.1 _ _ (by omega) (by omega) (by omega)).trans p3
      have Ro := RTh_on hR hp
      have Fo : FRa S (ev_pI U 669 pc 1) := FRa_t hF (FRa_w (Or.inr (Or.inl ⟨by omega, by omega⟩)))
      rw [dfs_s, if_neg z]
      by_cases o0 : (P pc).1 = 0 ∨ (P pc).1 = 5
      · rw [if_pos o0]
        obtain ⟨o, hoo⟩ : ∃ o, o = out.length := ⟨_, rfl⟩
        have h68 : U.1 621 68 = (o : Int) := by rw [hoo]; exact hR.2.1
        refine ⟨1, ev_pI (ev_pI (ev_pI (ev_pI U 669 pc 1) 674 o (pc : Int)) 675 o fr) 621 68 ((o : Int) + 1), fun q => ?_, ?_, ⟨fun i hi => ?_, ?_, fun j q d hj => ?_⟩, fun j hj => ?_, ?_⟩
        · rw [turn, ra_leaf h670 (by omega) (by omega) hp2 hs (by rw [q1]; exact o0) h68 (by omega)]
        · exact FRa_t Fo (FRa_t (FRa_t (FRa_w (Or.inr (Or.inr ⟨by omega, by omega⟩))) (FRa_w (Or.inr (Or.inr ⟨by omega, by omega⟩)))) (FRa_w (Or.inl ⟨rfl, rfl⟩)))
        · rw [rd_nk (by decide), rd_nk (by decide), rd_nk (by decide)]
          exact Ro.1 i hi
        · rw [rd_eq, List.length_append, hoo]
          rfl
        · by_cases hi : j < out.length
          · rw [List.getElem?_append_left hi] at hj
            obtain ⟨y1, y2⟩ := Ro.2.2 j q d hj
            exact ⟨(rd_nk (by decide)).trans ((rd_nk (by decide)).trans ((rd_nf (by omega)).trans y1)), (rd_nk (by decide)).trans ((rd_nf (by omega)).trans ((rd_nk (by decide)).trans y2))⟩
          · rw [List.getElem?_append_right (by omega)] at hj
            have e0 : j - out.length = 0 := by
              apply Classical.byContradiction
              intro w
              rw [List.getElem?_eq_none (by show 1 ≤ _; omega)] at hj
              cases hj
            rw [e0] at hj
            have e' : (pc, c) = (q, d) := Option.some.inj hj
            obtain ⟨rfl, rfl⟩ := Prod.mk.inj e'
            have ej : j = o := by omega
            rw [ej]
            exact ⟨(rd_nk (by decide)).trans ((rd_nk (by decide)).trans rd_eq), (rd_nk (by decide)).trans (rd_eq.trans hc.symm)⟩
        · rw [rd_nk (by decide), rd_nk (by decide), rd_nk (by decide), rd_nk (by decide)]
        · show 1 + 2 * cnf (onB A pc) n ≤ _
          omega
      · rw [if_neg o0]
        by_cases o2 : (P pc).1 = 2
        · rw [if_pos o2]
          have w2 : (0 ≤ (P pc).2.1 ∧ (P pc).2.1 < n) ∧ (0 ≤ (P pc).2.2 ∧ (P pc).2.2 < n) := by
            rcases hw pc hp with y | y | y | y | y | y
            · omega
            · omega
            · exact y.2
            · omega
            · omega
            · omega
          obtain ⟨a, ha⟩ : ∃ a : Nat, (P pc).2.1 = (a : Int) := ⟨(P pc).2.1.toNat, by omega⟩
          obtain ⟨b, hb⟩ : ∃ b : Nat, (P pc).2.2 = (b : Int) := ⟨(P pc).2.2.toNat, by omega⟩
          rw [ha, hb, Int.toNat_natCast, Int.toNat_natCast]
          obtain ⟨X, hX⟩ : ∃ X, X = ev_pI (ev_pI (ev_pI U 669 pc 1) 670 t (b : Int)) 670 (t + 1) (a : Int) := ⟨_, rfl⟩
          have FX : FRa S X := by
            rw [hX]
            exact FRa_t Fo (FRa_t (FRa_w (Or.inr (Or.inl ⟨by omega, by omega⟩))) (FRa_w (Or.inr (Or.inl ⟨by omega, by omega⟩))))
          have RX : RTh n (onB A pc) out X := by
            rw [hX]
            exact RTh_p (RTh_p Ro)
          have xt : X.1 670 t = (b : Int) := by rw [hX, ev_pI_ne2 (by omega), ev_pI_eq]
          have xj : ∀ j, j < t → X.1 670 j = U.1 670 j := fun j hj => by rw [hX, ev_pI_ne2 (by omega), ev_pI_ne2 (by omega), rd_nk (by decide)]
          obtain ⟨m1, V1, i1, i2, i3, i4, i5⟩ := ih a c (onB A pc) out X (t + 1) (by omega) (by omega) hc FX RX (by rw [hX, ev_pI_eq]) (by omega) (by omega)
          obtain ⟨d1, _⟩ := dfs_cnf (E := E) (k := k) hw f a c (onB A pc) (by omega)
          obtain ⟨m2, V2, j1, j2, j3, j4, j5⟩ := ih b c (dfs P E k f a c (onB A pc)).2 (out ++ (dfs P E k f a c (onB A pc)).1) V1 t (by omega) (by omega) hc i2 i3 ((i4 t (by omega)).trans xt) (by rw [List.length_append]; omega) (by omega)
          refine ⟨m2 + m1 + 1, V2, fun q => ?_, j2, ?_, fun j hj => by rw [j4 j hj, i4 j (by omega), xj j hj], ?_⟩
          · rw [show q + (m2 + m1 + 1) = (q + m2 + m1) + 1 from by omega, turn, ra_fork h670 (by omega) (by omega) hp2 hs (q1.trans o2) (q2.trans ha) (q3.trans hb), ← hX, show (t : Int) + 1 + 1 = ((t + 1 : Nat) : Int) + 1 from by omega, i1, show ((t + 1 : Nat) : Int) = (t : Int) + 1 from by omega, j1]
          · rw [List.append_assoc] at j3
            exact j3
          · show m2 + m1 + 1 + 2 * cnf (dfs P E k f b c (dfs P E k f a c (onB A pc)).2).2 n ≤ _
            omega
        · rw [if_neg o2]
          have one : ∀ (tt : Nat) (c' : CPs), tt < n → c' 0 = fr → ((P pc).1 = 3 ∧ (P pc).2.1 = (tt : Int)) ∨ ((P pc).1 = 4 ∧ tt = pc + 1) → ∃ m V, (∀ q, jl_317_17 Q fr (q + m) (210 * (p : Int)) ((t : Int) + 1) U = jl_317_17 Q fr q (210 * (p : Int)) (t : Int) V) ∧ FRa S V ∧ RTh n (dfs P E k f tt c' (onB A pc)).2 (out ++ (dfs P E k f tt c' (onB A pc)).1) V ∧ (∀ j, j < t → V.1 670 j = U.1 670 j) ∧ m + 2 * cnf (dfs P E k f tt c' (onB A pc)).2 n ≤ 2 * cnf A n + 1 := fun tt c' ht' hc' hop => by
            obtain ⟨X, hX⟩ : ∃ X, X = ev_pI (ev_pI U 669 pc 1) 670 t (tt : Int) := ⟨_, rfl⟩
            have FX : FRa S X := by
              rw [hX]
              exact FRa_t Fo (FRa_w (Or.inr (Or.inl ⟨by omega, by omega⟩)))
            have RX : RTh n (onB A pc) out X := by
              rw [hX]
              exact RTh_p Ro
            have xj : ∀ j, j < t → X.1 670 j = U.1 670 j := fun j hj => by rw [hX, ev_pI_ne2 (by omega), rd_nk (by decide)]
            obtain ⟨m1, V1, i1, i2, i3, i4, i5⟩ := ih tt c' (onB A pc) out X t ht' (by omega) hc' FX RX (by rw [hX, ev_pI_eq]) (by omega) (by omega)
            refine ⟨m1 + 1, V1, fun q => ?_, i2, i3, fun j hj => by rw [i4 j hj, xj j hj], by omega⟩
            rw [show q + (m1 + 1) = (q + m1) + 1 from by omega, turn, ra_jump (tt := tt) h670 (by omega) (by omega) hp2 hs (by rw [q1, q2]; exact hop), ← hX, i1]
          by_cases o3 : (P pc).1 = 3
          · rw [if_pos o3]
            have w3 : 0 ≤ (P pc).2.1 ∧ (P pc).2.1 < n := by
              rcases hw pc hp with y | y | y | y | y | y
              · omega
              · omega
              · omega
              · exact y.2
              · omega
              · omega
            exact one (P pc).2.1.toNat c (by omega) hc (Or.inl ⟨o3, by omega⟩)
          · rw [if_neg o3]
            have n1 := h1 pc hp
            have w4 : (P pc).1 = 4 ∧ pc + 1 < n ∧ 2 ≤ (P pc).2.1 := by
              rcases hw pc hp with y | y | y | y | y | y
              · omega
              · omega
              · omega
              · omega
              · exact ⟨y.1, y.2.1, y.2.2.1⟩
              · omega
            rw [if_pos w4.1]
            exact one (pc + 1) (putC c (P pc).2.1 (k : Int)) w4.2.1 ((if_neg (by omega)).trans hc) (Or.inr ⟨w4.1, rfl⟩)
/-- one thread more, from a place of the program -/
theorem sp_317 {E : Int → Bool} (hp2 : p < 12) (hw : wfP P n) (hn : n ≤ 210) (h1 : ∀ i, i < n → (P i).1 ≠ 1) (hP : ∀ i, i < n → rd3 662 663 664 (210 * p + i) S (P i)) (hp : pc < n) (hc : c 0 = fr) (hF : FRa S U) (hR : RTh n A out U) (ho : out.length + cnf A n ≤ 420) (hQ : 1000 ≤ Q) : ∃ V, jm_317 Q (p : Int) (pc : Int) fr U = some ((), V) ∧ FRa S V ∧ RTh n (dfs P E k n pc c A).2 (out ++ (dfs P E k n pc c A).1) V := by
  have le := cnf_le (A := A) n
  have F0 : FRa S (ev_pI U 670 0 (pc : Int)) := FRa_t hF (FRa_w (Or.inr (Or.inl ⟨by omega, by omega⟩)))
  obtain ⟨m, V, a1, a2, a3, _, a5⟩ := ra_dfs (Q := Q) (E := E) (k := k) hp2 hw hn h1 hP n pc c A out (ev_pI U 670 0 (pc : Int)) 0 hp le hc F0 (RTh_p hR) ev_pI_eq ho (by omega)
  refine ⟨V, ?_, a2, a3⟩
  obtain ⟨q, hq⟩ : ∃ q, Q = (q + 1) + m := ⟨Q - m - 1, by omega⟩
  have s := a1 (q + 1)
  rw [← hq] at s
  unfold jm_317
  rw [sp_ck (by omega), sp_if (by rw [al_317.2.2.2.2.1]; omega), sp_b]
  show jl_317_17 Q fr Q (210 * (p : Int)) ((0 : Nat) + 1 : Int) (ev_pI U 670 0 (pc : Int)) = _
  rw [s]
  show jb_317_17 _ _ _ _ _ _ = _
  unfold jb_317_17
  rw [if_pos (by omega)]
end ORI
