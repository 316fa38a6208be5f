/-! PLAY: a macro's replacements, one after another, on both sides -/
section OSO
variable {Q p k t m i j len w s E b c0 cc q q' G cnt : Nat} {n o0 : Int} {S S1 S2 S' T T1 T2 T' U V W X C : ev_St} {a c d e f v x y md lim : Int} {D : lg_D}
theorem c200 (h : 0 ≤ S.1 0 5 ∧ S.1 0 5 ≤ 12) (h2 : (p : Int) < S.1 0 5) : jm_200 Q (p : Int) S = some (313 + 20 * p + 1, S) := by
  unfold jm_200
  rw [if_neg (by omega), sp_b, if_neg (by omega), if_neg (by omega), sp_if (by omega), sp_b, Int.toNat_natCast]
/-- a macro whose rows can be played -/
def PLY (S : ev_St) (G cnt : Nat) : Prop := (G < 6 ∧ cnt ≤ 10) ∧ (S.1 311 G = (cnt : Int) ∧ S.1 716 G = (cnt : Int)) ∧ ∀ i, i < cnt → ∃ p t : Nat, ((p : Int) < S.1 0 5 ∧ (t : Int) < S.1 0 7) ∧ (S.1 (305 + G) (3 * i) = (p : Int) ∧ S.1 (305 + G) (3 * i + 1) = (t : Int)) ∧ S.1 717 (30 * G + 3 * i) = (p : Int) ∧ S.1 717 (30 * G + 3 * i + 1) = (t : Int) ∧ S.1 717 (30 * G + 3 * i + 2) = S.1 (305 + G) (3 * i + 2)
/-- the class, at one of them -/
theorem pl_C (hk : 0 ≤ S.1 0 5 ∧ S.1 0 5 ≤ 12) (h7 : 0 ≤ S.1 0 7 ∧ S.1 0 7 ≤ 8) (hG : G < 6) (h10 : cnt ≤ 10) (h311 : S.1 311 G = (cnt : Int)) (hi : i < cnt) (hp : (p : Int) < S.1 0 5) (ht : (t : Int) < S.1 0 7) (r0 : S.1 (305 + G) (3 * i) = (p : Int)) (r1 : S.1 (305 + G) (3 * i + 1) = (t : Int)) (hU : ∀ c g, ¬ (269 ≤ c ∧ c ≤ 283) → c < 621 → U.1 c g = S.1 c g) {u0 : Int} : jl_194_64 Q (G : Int) (b : Int) (q + 1) (305 + G) u0 (i : Int) U = ev_bd (jm_44 Q 282 (313 + 20 * p + 1) (553 + 2 * t + 1) (S.1 (305 + G) (3 * i + 2)) U) fun v s => if v ≠ -1 then (ev_ck (u0 + v) fun a => ev_ck ((i : Int) + 1) fun c => jl_194_64 Q (G : Int) (b : Int) q (305 + G) a c s) else some (.inr "java/lang/IllegalStateException", ev_tick s) := by
  obtain ⟨lr, l311, _, _⟩ := al_mac
  have lr := lr G hG
  rw [Nat.one_mul] at lr
  have e5 : U.1 0 5 = S.1 0 5 := hU _ _ (by omega) (by omega)
  have e7 : U.1 0 7 = S.1 0 7 := hU _ _ (by omega) (by omega)
  have p1 := c200 (Q := Q) (p := p) (S := U) (by omega) (by omega)
  have p2 := c201 (Q := Q) (a := (t : Int)) (S := U) (by omega)
  rw [if_pos (by omega), Int.toNat_natCast] at p2
  show jb_194_64 Q (G : Int) (b : Int) (jl_194_64 Q (G : Int) (b : Int) q) (305 + G) u0 (i : Int) U = _
  unfold jb_194_64
  rw [sp_if (by rw [l311]; omega), sp_b, Int.toNat_natCast, hU 311 _ (by omega) (by omega), h311, sp_jn, if_neg (by omega), sp_ck (by omega), sp_ck (by omega), sp_b, lr, if_neg (by omega), sp_ck (by omega), sp_if (by omega), sp_b, show (3 * (i : Int)).toNat = 3 * i by omega, hU (305 + G) _ (by omega) (by omega), r0, p1, sp_bd, sp_ck (by omega), sp_ck (by omega), sp_if (by omega), sp_b, show (3 * (i : Int) + 1).toNat = 3 * i + 1 by omega, hU (305 + G) _ (by omega) (by omega), r1, p2, sp_bd, sp_jn, sp_jn, if_neg (by omega), if_neg (by omega)]
  try dsimp only
  rw [sp_jn, if_neg (by decide), sp_ck (by omega), sp_ck (by omega), sp_if (by omega), sp_b, show (3 * (i : Int) + 2).toNat = 3 * i + 2 by omega, hU (305 + G) _ (by omega) (by omega)]
/-- the class, past the last -/
theorem pl_Ce (hG : G < 6) (h311 : U.1 311 G = (cnt : Int)) {u0 : Int} : jl_194_64 Q (G : Int) (b : Int) (q + 1) (305 + G) u0 (cnt : Int) U = ev_bd (jm_47 Q 255 (b : Int) U) fun _ s => some (.inl u0, s) := by
  obtain ⟨lr, l311, _, _⟩ := al_mac
  show jb_194_64 Q (G : Int) (b : Int) (jl_194_64 Q (G : Int) (b : Int) q) (305 + G) u0 (cnt : Int) U = _
  unfold jb_194_64
  rw [sp_if (by rw [l311]; omega), sp_b, Int.toNat_natCast, h311, sp_jn, if_pos (Int.le_refl _)]
/-- the reference, trying one -/
theorem pl_R (hG : G < 6) (h10 : cnt ≤ 10) (h716 : T.1 716 G = (cnt : Int)) (hi : i < cnt) (r0 : T.1 717 (30 * G + 3 * i) = (p : Int)) (r1 : T.1 717 (30 * G + 3 * i + 1) = (t : Int)) (r2 : T.1 717 (30 * G + 3 * i + 2) = lim) : jl_361_50 Q (G : Int) (b : Int) (q + 1) (30 * (G : Int) + 3 * (i : Int)) T = ev_bd (jm_349 Q (p : Int) (t : Int) lim T) fun v s => if v ≠ -1 then (ev_bd (jm_360 Q v s) fun _ s => jl_361_50 Q (G : Int) (b : Int) q (30 * (G : Int) + 3 * ((i + 1 : Nat) : Int)) s) else ev_bd (jm_221 Q 2 s) fun x s => some (x, s) := by
  obtain ⟨_, _, l716, l717⟩ := al_mac
  show jb_361_50 Q (G : Int) (b : Int) (jl_361_50 Q (G : Int) (b : Int) q) _ T = _
  have ck3 : ∀ s, (ev_ck (30 * (G : Int) + 3 * (i : Int) + 3) fun x => jl_361_50 Q (G : Int) (b : Int) q x s) = jl_361_50 Q (G : Int) (b : Int) q (30 * (G : Int) + 3 * ((i + 1 : Nat) : Int)) s := fun s => by
    rw [sp_ck (by omega), show 30 * (G : Int) + 3 * (i : Int) + 3 = 30 * (G : Int) + 3 * ((i + 1 : Nat) : Int) by omega]
  unfold jb_361_50
  rw [sp_ck (by omega), sp_if (by rw [l716]; omega), sp_b, Int.toNat_natCast, h716, sp_ck (by omega), sp_ck (by omega), if_neg (by omega), sp_if (by rw [l717]; omega), sp_b, show (30 * (G : Int) + 3 * (i : Int)).toNat = 30 * G + 3 * i by omega, r0, sp_ck (by omega), sp_if (by rw [l717]; omega), sp_b, show (30 * (G : Int) + 3 * (i : Int) + 1).toNat = 30 * G + 3 * i + 1 by omega, r1, sp_ck (by omega), sp_if (by rw [l717]; omega), sp_b, show (30 * (G : Int) + 3 * (i : Int) + 2).toNat = 30 * G + 3 * i + 2 by omega, r2]
  simp only [ck3]
theorem pl_Re (hG : G < 6) (h10 : cnt ≤ 10) (h716 : T.1 716 G = (cnt : Int)) : jl_361_50 Q (G : Int) (b : Int) (q + 1) (30 * (G : Int) + 3 * (cnt : Int)) T = jl_361_127 Q (G : Int) (b : Int) Q 0 (30 * (G : Int)) T := by
  obtain ⟨_, _, l716, l717⟩ := al_mac
  show jb_361_50 Q (G : Int) (b : Int) (jl_361_50 Q (G : Int) (b : Int) q) _ T = _
  unfold jb_361_50
  rw [sp_ck (by omega), sp_if (by rw [l716]; omega), sp_b, Int.toNat_natCast, h716, sp_ck (by omega), sp_ck (by omega), if_pos (Int.le_refl _), sp_ck (by omega)]
/-- the reference, making one -/
theorem pl_M (hG : G < 6) (h10 : cnt ≤ 10) (h716 : T.1 716 G = (cnt : Int)) (hi : i < cnt) (h288 : jm_288 Q (b : Int) T = some ((), T1)) (r0 : T1.1 717 (30 * G + 3 * i) = (p : Int)) (r1 : T1.1 717 (30 * G + 3 * i + 1) = (t : Int)) (r2 : T1.1 717 (30 * G + 3 * i + 2) = lim) (h349 : jm_349 Q (p : Int) (t : Int) lim T1 = some (v, T2)) (h350 : jm_350 Q (b : Int) v T2 = some ((), T')) (hy : 0 ≤ y ∧ y ≤ 1000) (hv : 0 ≤ v ∧ v ≤ 1000) : jl_361_127 Q (G : Int) (b : Int) (q + 1) y (30 * (G : Int) + 3 * (i : Int)) T = jl_361_127 Q (G : Int) (b : Int) q (y + v) (30 * (G : Int) + 3 * ((i + 1 : Nat) : Int)) T' := by
  obtain ⟨_, _, l716, l717⟩ := al_mac
  show jb_361_127 Q (G : Int) (b : Int) (jl_361_127 Q (G : Int) (b : Int) q) _ _ T = _
  unfold jb_361_127
  rw [sp_ck (by omega), sp_if (by rw [l716]; omega), sp_b, Int.toNat_natCast, h716, sp_ck (by omega), sp_ck (by omega), if_neg (by omega), h288, sp_bd, sp_if (by rw [l717]; omega), sp_b, show (30 * (G : Int) + 3 * (i : Int)).toNat = 30 * G + 3 * i by omega, r0, sp_ck (by omega), sp_if (by rw [l717]; omega), sp_b, show (30 * (G : Int) + 3 * (i : Int) + 1).toNat = 30 * G + 3 * i + 1 by omega, r1, sp_ck (by omega), sp_if (by rw [l717]; omega), sp_b, show (30 * (G : Int) + 3 * (i : Int) + 2).toNat = 30 * G + 3 * i + 2 by omega, r2, h349, sp_bd, h350, sp_bd, sp_ck (by omega), sp_ck (by omega), show 30 * (G : Int) + 3 * (i : Int) + 3 = 30 * (G : Int) + 3 * ((i + 1 : Nat) : Int) by omega]
theorem pl_Me (hG : G < 6) (h10 : cnt ≤ 10) (h716 : T.1 716 G = (cnt : Int)) : jl_361_127 Q (G : Int) (b : Int) (q + 1) y (30 * (G : Int) + 3 * (cnt : Int)) T = ev_bd (jm_345 Q T) fun _ s => some (y, s) := by
  obtain ⟨_, _, l716, l717⟩ := al_mac
  show jb_361_127 Q (G : Int) (b : Int) (jl_361_127 Q (G : Int) (b : Int) q) _ _ T = _
  unfold jb_361_127
  rw [sp_ck (by omega), sp_if (by rw [l716]; omega), sp_b, Int.toNat_natCast, h716, sp_ck (by omega), sp_ck (by omega), if_pos (Int.le_refl _)]
end OSO
