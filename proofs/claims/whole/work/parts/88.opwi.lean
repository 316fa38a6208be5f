/-! FACTS: the class's loops along a chain -/
section FACTC4
variable {Q k b e N : Nat} {X : Nat → Int} {f : Nat → Nat} {Mb : Nat → Prop} {W : Nat → FV} {S U V : ev_St}
/-- the class's link for the reference's -/
def img (f : Nat → Nat) (c : Int) : Int := if c = -1 then -1 else ((f c.toNat : Nat) : Int)
theorem img_n {u : Nat} : img f (u : Int) = ((f u : Nat) : Int) := by
  unfold img
  rw [if_neg (by omega), Int.toNat_natCast]
/-- members of a chain go on to members, with larger numbers -/
def mbX (N : Nat) (X : Nat → Int) (Mb : Nat → Prop) : Prop := ∀ t, Mb t → t < N ∧ (X t = -1 ∨ ∃ u : Nat, X t = (u : Int) ∧ t < u ∧ Mb u)
def mbc (Mb : Nat → Prop) (b0 : Nat) (c : Int) : Prop := c = -1 ∨ ∃ u : Nat, c = (u : Int) ∧ b0 ≤ u ∧ Mb u
theorem mbc_n {b0 u : Nat} (hX : mbX N X Mb) (hu : Mb u) (hb : b0 ≤ u) : mbc Mb (b0 + 1) (X u) := by
  rcases (hX u hu).2 with z | ⟨v, z, z1, z2⟩
  · exact Or.inl z
  · exact Or.inr ⟨v, z, by omega, z2⟩
theorem chl_mem {α γ : Type} (hX : mbX N X Mb) (R : α → γ → Prop) {F : α → Nat → α} {G : γ → Nat → γ} (hf : ∀ a a' t, Mb t → R a a' → R (F a t) (G a' t)) : ∀ (n b0 : Nat) (c : Int) (a : α) (a' : γ), mbc Mb b0 c → R a a' → R (chl X F n c a) (chl X G n c a')
  | 0, b0, c, a, a', _, h => h
  | n + 1, b0, c, a, a', hc, h => by
    unfold chl
    rcases hc with z | ⟨u, z, z1, z2⟩
    · rw [if_pos z, if_pos z]
      exact h
    · rw [if_neg (by omega), if_neg (by omega), z, Int.toNat_natCast]
      exact chl_mem hX R hf n (b0 + 1) _ _ _ (mbc_n hX z2 z1) (hf a a' u z2 h)
def val (U : ev_St) (b : Nat) : FV := (U.1 222 b, U.1 223 b, cm U 224 b, cm U 225 b, cm U 226 b, cm U 227 b)
theorem val_of {v : FV} (h : VAL b U v) : val U b = v := by
  obtain ⟨h1, h2, h3⟩ := h
  obtain ⟨a, b', F, J, I, A⟩ := v
  show (U.1 222 b, U.1 223 b, cm U 224 b, cm U 225 b, cm U 226 b, cm U 227 b) = (a, b', F, J, I, A)
  have e1 : cm U 224 b = F := funext fun c => propext (h3 c).1
  have e2 : cm U 225 b = J := funext fun c => propext (h3 c).2.1
  have e3 : cm U 226 b = I := funext fun c => propext (h3 c).2.2.1
  have e4 : cm U 227 b = A := funext fun c => propext (h3 c).2.2.2
  rw [e1, e2, e3, e4, show U.1 222 b = a from h1, show U.1 223 b = b' from h2]
theorem val_V : VAL b U (val U b) := ⟨rfl, rfl, fun _ => ⟨Iff.rfl, Iff.rfl, Iff.rfl, Iff.rfl⟩⟩
theorem val_c (h : FRn b U V) (he : e ≠ b) : val V e = val U e := val_of (VAL_e val_V h he)
theorem rowF_b {v w : FV} (r1 : fcv v.1 ∧ fcv v.2.1) (r2 : fcv w.1 ∧ fcv w.2.1) : fcv (rowF v w).1 ∧ fcv (rowF v w).2.1 := ⟨mlC_b (by have := r1.1.1; have := r2.1.1; omega), mlC_b (by have := r1.2.1; have := r2.2.1; omega)⟩
/-- what the loops want of the nodes of a chain -/
def chW (k b : Nat) (f : Nat → Nat) (X : Nat → Int) (Mb : Nat → Prop) (W : Nat → FV) (U : ev_St) : Prop := (U.2.2.1 221 9 = k + 1 ∧ ev_aln (k + 5) = 400 ∧ k + 5 < 222 ∨ U.2.2.1 221 9 = k + 1 ∧ ev_aln (k + 5) = 400 ∧ 232 ≤ k) ∧ ∀ t, Mb t → VAL (f t) U (W t) ∧ (fcv (W t).1 ∧ fcv (W t).2.1) ∧ U.1 (k + 5) (f t) = img f (X t) ∧ ((f t : Int) < U.1 k 11 ∧ f t < 400 ∧ f t ≠ b)
theorem chW_c (h : chW k b f X Mb W U) (hf : FRn b U V) : chW k b f X Mb W V := by
  obtain ⟨h1, h2⟩ := h
  refine ⟨by rw [hf.2.1]; exact h1, fun t ht => ?_⟩
  obtain ⟨a1, a2, a3, a4, a5, a6⟩ := h2 t ht
  refine ⟨VAL_e a1 hf a6, a2, ?_, ?_, a5, a6⟩
  · rw [hf.1 _ _ (by omega)]
    exact a3
  · rw [hf.1 _ _ (by omega)]
    exact a4
theorem run33 (hX : mbX N X Mb) (hb : b < 400) : ∀ (r q i b0 : Nat) (c : Int) (v : FV) (U : ev_St), r < q → N ≤ b0 + r → i + r < 400 → mbc Mb b0 c → chW k b f X Mb W U → VAL b U v → (fcv v.1 ∧ fcv v.2.1) → ∃ V, jl_33_12 Q (b : Int) q (img f c) (i : Int) U = some ((), V) ∧ FRn b U V ∧ VAL b V (chl X (fun v t => rowF v (W t)) r c v) ∧ fcv (chl X (fun v t => rowF v (W t)) r c v).1 ∧ fcv (chl X (fun v t => rowF v (W t)) r c v).2.1
  | r, 0, i, b0, c, v, U, h, _, _, _, _, _, _ => by omega
  | 0, q + 1, i, b0, c, v, U, _, hN, hi, hc, hw, hv, hr => by
    rcases hc with z | ⟨u, z, z1, z2⟩
    · refine ⟨U, ?_, FRn_r, hv, hr⟩
      have hk : U.2.2.1 221 9 = k + 1 := by
        rcases hw.1 with y | y <;> exact y.1
      show jb_33_12 Q _ _ _ _ U = _
      unfold jb_33_12
      rw [if_neg (by omega), sp_b, hk, sp_if (by omega), show k + 1 - 1 = k from rfl, sp_59, sp_bd, z, show img f (-1) = -1 from if_pos rfl, if_pos (if_neg (by omega))]
    · have := (hX u z2).1
      omega
  | r + 1, q + 1, i, b0, c, v, U, hq, hN, hi, hc, hw, hv, hr => by
    have hk : U.2.2.1 221 9 = k + 1 ∧ ev_aln (k + 5) = 400 ∧ (k ≠ 222 ∧ k ≠ 223) ∧ (k + 5 ≠ 222 ∧ k + 5 ≠ 223) := by
      rcases hw.1 with y | y <;> exact ⟨y.1, y.2.1, by omega, by omega⟩
    rcases hc with z | ⟨u, z, z1, z2⟩
    · have ec : chl X (fun v t => rowF v (W t)) (r + 1) c v = v := by
        rw [chl, if_pos z]
      rw [ec]
      refine ⟨U, ?_, FRn_r, hv, hr⟩
      show jb_33_12 Q _ _ _ _ U = _
      unfold jb_33_12
      rw [if_neg (by omega), sp_b, hk.1, sp_if (by omega), show k + 1 - 1 = k from rfl, sp_59, sp_bd, z, show img f (-1) = -1 from if_pos rfl, if_pos (if_neg (by omega))]
    · have ec : chl X (fun v t => rowF v (W t)) (r + 1) c v = chl X (fun v t => rowF v (W t)) r (X u) (rowF v (W u)) := by
        rw [chl, if_neg (by omega), z, Int.toNat_natCast]
      rw [ec]
      obtain ⟨a1, a2, a3, a4, a5, a6⟩ := hw.2 u z2
      obtain ⟨V1, b1, b2, b3⟩ := row_step (Q := Q) (K12 := jl_33_12 Q (b : Int) q) (i := i) hk.1 hk.2.1 a4 hk.2.2.1 hk.2.2.2 hb a5 a6 (by omega) hv a1 hr a2
      obtain ⟨V2, c1, c2, c3, c4⟩ := run33 hX hb r q (i + 1) (b0 + 1) (X u) (rowF v (W u)) V1 (by omega) (by omega) (by omega) (mbc_n hX z2 z1) (chW_c hw b2) b3 (rowF_b hr a2)
      refine ⟨V2, ?_, FRn_t b2 c2, c3, c4⟩
      rw [← c1, z, img_n]
      show jb_33_12 Q _ _ _ _ U = _
      rw [b1, a3, show (i : Int) + 1 = ((i + 1 : Nat) : Int) from by omega]
theorem partF_b {K : Int} {v : Int × FV} {w : FV} {j : Nat} (r0 : v.1 = (j : Int)) (r1 : fcv v.2.1 ∧ 0 ≤ v.2.2.1 ∧ v.2.2.1 ≤ 1000002 * (j : Int) + 2) (r2 : fcv w.1 ∧ fcv w.2.1) : (partF K v w).1 = ((j + 1 : Nat) : Int) ∧ fcv (partF K v w).2.1 ∧ 0 ≤ (partF K v w).2.2.1 ∧ (partF K v w).2.2.1 ≤ 1000002 * ((j + 1 : Nat) : Int) + 2 := by
  unfold fcv at r1 r2
  refine ⟨?_, ?_, ?_, ?_⟩
  · show v.1 + 1 = _
    omega
  · show fcv (if w.1 < v.2.1 then w.1 else v.2.1)
    unfold fcv
    split <;> omega
  · show 0 ≤ v.2.2.1 + (w.2.1 + (if v.1 + 1 ≤ 1 then 0 else 2))
    split <;> omega
  · show v.2.2.1 + (w.2.1 + (if v.1 + 1 ≤ 1 then 0 else 2)) ≤ _
    split <;> omega
theorem run34 {K : Int} (hX : mbX N X Mb) (hb : b < 400) : ∀ (r q i b0 : Nat) (c : Int) (v : Int × FV) (U : ev_St), r < q → N ≤ b0 + r → i + r < 400 → mbc Mb b0 c → chW k b f X Mb W U → (U.1 222 b = 0 ∧ U.1 223 b = 0) → SET4 b U v.2.2.2.1 v.2.2.2.2.1 v.2.2.2.2.2.1 v.2.2.2.2.2.2 → v.1 = (i : Int) → (fcv v.2.1 ∧ 0 ≤ v.2.2.1 ∧ v.2.2.1 ≤ 1000002 * (i : Int) + 2) → ∃ V, jl_34_43 Q (b : Int) K q (img f c) v.1 v.2.1 v.2.2.1 (i : Int) U = some ((), V) ∧ FRn b U V ∧ VAL b V (partE K (chl X (fun v t => partF K v (W t)) r c v)) ∧ fcv (chl X (fun v t => partF K v (W t)) r c v).2.1 ∧ 0 ≤ (chl X (fun v t => partF K v (W t)) r c v).2.2.1
  | r, 0, i, b0, c, v, U, h, _, _, _, _, _, _, _, _ => by omega
  | 0, q + 1, i, b0, c, v, U, _, hN, hi, hc, hw, hz, hv, h0, h1 => by
    rcases hc with z | ⟨u, z, z1, z2⟩
    · have hk : U.2.2.1 221 9 = k + 1 := by
        rcases hw.1 with y | y <;> exact y.1
      obtain ⟨V, a1, a2, a3⟩ := part_end (Q := Q) (K := K) (K43 := jl_34_43 Q (b : Int) K q) (i := i) hk hb (by omega) hv (by omega)
      refine ⟨V, ?_, a2, a3, h1.1, h1.2.1⟩
      rw [← a1, z, show img f (-1) = -1 from if_pos rfl]
      rfl
    · have := (hX u z2).1
      omega
  | r + 1, q + 1, i, b0, c, v, U, hq, hN, hi, hc, hw, hz, hv, h0, h1 => by
    have hk : U.2.2.1 221 9 = k + 1 ∧ ev_aln (k + 5) = 400 := by
      rcases hw.1 with y | y <;> exact ⟨y.1, y.2.1⟩
    rcases hc with z | ⟨u, z, z1, z2⟩
    · have ec : chl X (fun v t => partF K v (W t)) (r + 1) c v = v := by
        rw [chl, if_pos z]
      rw [ec]
      obtain ⟨V, a1, a2, a3⟩ := part_end (Q := Q) (K := K) (K43 := jl_34_43 Q (b : Int) K q) (i := i) hk.1 hb (by omega) hv (by omega)
      refine ⟨V, ?_, a2, a3, h1.1, h1.2.1⟩
      rw [← a1, z, show img f (-1) = -1 from if_pos rfl]
      rfl
    · have ec : chl X (fun v t => partF K v (W t)) (r + 1) c v = chl X (fun v t => partF K v (W t)) r (X u) (partF K v (W u)) := by
        rw [chl, if_neg (by omega), z, Int.toNat_natCast]
      rw [ec]
      obtain ⟨a1, a2, a3, a4, a5, a6⟩ := hw.2 u z2
      obtain ⟨V1, b1, b2, b3⟩ := part_step (Q := Q) (K := K) (K43 := jl_34_43 Q (b : Int) K q) (i := i) (v := v) hk.1 hk.2 a4 hb a5 a6 (by omega) hv a1 (by omega) ⟨h1.1, by omega, by omega⟩ a2
      obtain ⟨p1, p2⟩ := partF_b (K := K) (w := W u) h0 h1 a2
      obtain ⟨V2, c1, c2, c3, c4⟩ := run34 hX hb r q (i + 1) (b0 + 1) (X u) (partF K v (W u)) V1 (by omega) (by omega) (by omega) (mbc_n hX z2 z1) (chW_c hw (FRn_of b2)) (by rw [b2.1]; exact hz) b3 p1 p2
      refine ⟨V2, ?_, FRn_t (FRn_of b2) c2, c3, c4⟩
      rw [← c1, z, img_n]
      show jb_34_43 Q _ _ _ _ _ _ _ _ U = _
      rw [b1, a3, show (i : Int) + 1 = ((i + 1 : Nat) : Int) from by omega]
end FACTC4
