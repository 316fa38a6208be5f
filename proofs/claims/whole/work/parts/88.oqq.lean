/-! ENGINES: the class adds a thread -/
section OQQ
variable {Q k g w l s wd n x d i pc f m : Nat} {P : Nat → T3} {E : Int → Bool} {lv A : SNs} {c : CPs} {out : LFs} {L : List INS} {S S0 S1 S2 T U : ev_St} {a b v stamp : Int}
/-- an instruction of the class, with its targets -/
def insP (i : Nat) (x : INS) (t : T3) : Prop := (x.1 = 0 ∧ t.1 = 0) ∨ (x.1 = 1 ∧ t.1 = 1) ∨ (x.1 = 2 ∧ t.1 = 3 ∧ t.2.1 = (i : Int) + x.2.1) ∨ (x.1 = 3 ∧ t.1 = 2 ∧ t.2.1 = (i : Int) + 1 ∧ t.2.2 = (i : Int) + x.2.1) ∨ (x.1 = 4 ∧ t.1 = 2 ∧ t.2.1 = (i : Int) + x.2.1 ∧ t.2.2 = (i : Int) + 1) ∨ (x.1 = 5 ∧ t.1 = 4 ∧ t.2.1 = x.2.1) ∨ (x.1 = 6 ∧ t.1 = 5)
/-- what a thread's coming may change -/
def FTc (k l s : Nat) (S0 S : ev_St) : Prop := (∀ c i, ¬ (c = k ∧ (i = 10 ∨ i = 15)) → ¬ (k + 3 ≤ c ∧ c ≤ k + 6) → c ≠ l → c ≠ s → S.1 c i = S0.1 c i) ∧ S.2 = S0.2
theorem FTc_r : FTc k l s S S := ⟨fun _ _ _ _ _ _ => rfl, rfl⟩
theorem FTc_t (h1 : FTc k l s S S1) (h2 : FTc k l s S1 S2) : FTc k l s S S2 := ⟨fun c i a b c1 d => (h2.1 c i a b c1 d).trans (h1.1 c i a b c1 d), h2.2.trans h1.2⟩
/-- what stands fixed -/
def TST (Q k g w l s wd n x : Nat) (L : List INS) (P : Nat → T3) (E : Int → Bool) (lv : SNs) (stamp : Int) (S0 : ev_St) : Prop := ((ev_aln (k + 3) = 208 ∧ ev_aln (k + 4) = 832 ∧ ev_aln (k + 5) = 832 ∧ ev_aln (k + 6) = wd ∧ ev_aln l = 208 ∧ ev_aln s = wd * 208) ∧ al5 g) ∧ (S0.2.2.1 k 11 = g + 1 ∧ S0.2.2.1 k 2 = l + 1 ∧ S0.2.2.1 k 4 = s + 1) ∧ (S0.1 k 0 = (wd : Int) ∧ S0.1 k 7 = stamp) ∧ (PL g S0 L ∧ n = L.length) ∧ (∀ i z, L[i]? = some z → insP i z (P i)) ∧ (∀ a, a < n → (lv a = true ↔ S0.1 (g + 5) a ≠ 0)) ∧ (∀ i z, L[i]? = some z → z.1 = 1 → ∀ S, FTc k l s S0 S → jm_155 Q w z.2.1 (x : Int) S = some (if E (P i).2.1 = true then 1 else 0, S)) ∧ ((k + 9 < g ∨ g + 5 < k) ∧ (k + 1 ≤ l ∧ l ≤ k + 2) ∧ (k + 8 ≤ s ∧ s ≤ k + 9) ∧ (wd = 1 ∨ wd = 20)) ∧ wfP P n
/-- the threads so far, what has been come to, the slots -/
def TRc (k l s wd n : Nat) (stamp : Int) (A : SNs) (c : CPs) (out : LFs) (S : ev_St) : Prop := (∀ i, i < 208 → S.1 (k + 3) i ≤ stamp ∧ (i < n → (A i = true ↔ S.1 (k + 3) i = stamp))) ∧ (∀ j, j < wd → S.1 (k + 6) j = c j) ∧ S.1 k 15 = (out.length : Int) ∧ ∀ (i q : Nat) (d : CPs), out[i]? = some (q, d) → S.1 l i = (q : Int) ∧ ∀ j, j < wd → S.1 s (wd * i + j) = d j
theorem t_push (h4 : ev_aln (k + 4) = 832) (h5 : ev_aln (k + 5) = 832) (hd : S.1 k 10 = (d : Int)) (hd2 : d < 832) : ∃ S2, jm_164 Q k a b S = some ((), S2) ∧ S2.1 k 10 = ((d + 1 : Nat) : Int) ∧ S2.1 (k + 4) d = a ∧ S2.1 (k + 5) d = b ∧ (∀ c i, ¬ (c = k ∧ i = 10) → ¬ ((c = k + 4 ∨ c = k + 5) ∧ i = d) → S2.1 c i = S.1 c i) ∧ S2.2 = S.2 := by
  obtain ⟨X, hX⟩ : ∃ X, X = ev_pI (ev_pI S (k + 4) d a) (k + 5) d b := ⟨_, rfl⟩
  have x10 : X.1 k 10 = (d : Int) := by
    rw [hX, rd_nk (by omega), rd_nk (by omega)]
    exact hd
  refine ⟨ev_pI X k 10 ((d + 1 : Nat) : Int), ?_, rd_eq, ?_, ?_, fun c i y1 y2 => ?_, ?_⟩
  · unfold jm_164
    rw [sp_b, hd, if_neg (by omega)]
    try dsimp only
    rw [sp_b, sp_b, h4, if_neg (by omega)]
    try dsimp only
    rw [sp_b, sp_b, h5, if_neg (by omega)]
    try dsimp only
    rw [sp_b, sp_if (by omega), sp_b, Int.toNat_natCast, sp_b, rd_nk (by omega), hd, sp_if (by omega), sp_b, Int.toNat_natCast, ← hX, sp_b, x10, sp_ck (by omega), sp_b, show (d : Int) + 1 = ((d + 1 : Nat) : Int) from by omega]
  · rw [rd_nk (by omega), hX, rd_nk (by omega), rd_eq]
  · rw [rd_nk (by omega), hX, rd_eq]
  · rw [sp_pI1, if_neg y1]
    try dsimp only
    rw [hX, sp_pI1, if_neg (by omega)]
    try dsimp only
    rw [sp_pI1, if_neg (by omega)]
  · rw [hX]
    rfl
/-- the turns of the loop -/
theorem l162 {q : Nat} {y : Int} : jl_162_14 Q k (w + 1) (x : Int) (q + 1) y S = jb_162_14 Q k (w + 1) (x : Int) (jl_162_14 Q k (w + 1) (x : Int) q) y S := rfl
theorem TST_n (hT : TST Q k g w l s wd n x L P E lv stamp S0) (hi : i < n) : ∃ z, L[i]? = some z ∧ insP i z (P i) ∧ n ≤ 208 := by
  obtain ⟨_, _, _, ⟨hp, hn⟩, hI, _⟩ := hT
  have h : i < L.length := by omega
  exact ⟨L[i], List.getElem?_eq_getElem h, hI i _ (List.getElem?_eq_getElem h), by rw [hn]; exact hp.2.1⟩
theorem FTc_p (hF : FTc k l s S0 S) (h1 : ∀ c i, ¬ (c = k ∧ i = 10) → ¬ ((c = k + 4 ∨ c = k + 5) ∧ i = d) → S2.1 c i = S.1 c i) (h2 : S2.2 = S.2) : FTc k l s S0 S2 := FTc_t hF ⟨fun c i a b _ _ => h1 c i (by omega) (by omega), h2⟩
/-- one turn: what has been come to already -/
theorem t_skip (hT : TST Q k g w l s wd n x L P E lv stamp S0) (hF : FTc k l s S0 S) (hR : TRc k l s wd n stamp A c out S) (hd : S.1 k 10 = ((d + 1 : Nat) : Int)) (ha : S.1 (k + 4) d = (pc : Int)) (hp : pc < n) (hA : A pc = true) {q : Nat} {y : Int} (hy : 0 ≤ y ∧ y < 1664) (hd2 : d < 832) : jl_162_14 Q k (w + 1) (x : Int) (q + 1) y S = jl_162_14 Q k (w + 1) (x : Int) q (y + 1) (ev_pI S k 10 (d : Int)) := by
  obtain ⟨z, z1, z2, z3⟩ := TST_n hT hp
  obtain ⟨⟨⟨a3, a4, a5, a6, al, as⟩, ag⟩, ⟨r1, r2, r3⟩, ⟨e0, e7⟩, ⟨hpl, hn⟩, hI, hl, hE, ⟨k1, k2, k3, k4⟩, hw⟩ := hT
  have g5 : S.1 g 5 = (n : Int) := by
    rw [hF.1 g 5 (by omega) (by omega) (by omega) (by omega), hpl.1, hn]
  have rf : S.2.2.1 k 11 = g + 1 := by
    rw [hF.2]
    exact r1
  have st : S.1 k 7 = stamp := (hF.1 k 7 (by omega) (by omega) (by omega) (by omega)).trans e7
  obtain ⟨X, hX⟩ : ∃ X, X = ev_pI S k 10 (d : Int) := ⟨_, rfl⟩
  have x10 : X.1 k 10 = (d : Int) := by rw [hX, rd_eq]
  have xr : ∀ c i, ¬ (c = k ∧ i = 10) → X.1 c i = S.1 c i := fun c i h => by rw [hX, sp_pI1, if_neg h]
  have x2 : X.2 = S.2 := by rw [hX]; rfl
  rw [l162, ← hX]
  unfold jb_162_14
  rw [if_neg (by omega)]
  try dsimp only
  rw [sp_b, hd, if_neg (by omega)]
  try dsimp only
  rw [sp_b, sp_ck (by omega), show ((d + 1 : Nat) : Int) - 1 = (d : Int) from by omega, sp_b, ← hX, sp_b, x10, sp_if (by omega), Int.toNat_natCast, sp_b, xr (k + 4) d (by omega), ha, sp_jn, if_pos (by omega)]
  try dsimp only
  rw [sp_b, x2, rf, sp_if (by omega), show g + 1 - 1 = g from rfl, sp_70 (n := (n : Int)) (by rw [xr g 5 (by omega)]; exact g5), sp_bd, if_pos (show 0 ≤ (pc : Int) ∧ (pc : Int) < (n : Int) ∧ (pc : Int) < 208 by omega)]
  try dsimp only
  rw [if_neg (by decide)]
  try dsimp only
  rw [sp_if (by omega), Int.toNat_natCast, sp_b, xr (k + 3) pc (by omega), ((hR.1 pc (by omega)).2 hp).mp hA, sp_b, xr k 7 (by omega), st, if_pos rfl]
  try dsimp only
  rw [sp_ck (by omega)]
/-- one turn: a slot gets back what it had -/
theorem t_back (hT : TST Q k g w l s wd n x L P E lv stamp S0) (hF : FTc k l s S0 S) (hd : S.1 k 10 = ((d + 1 : Nat) : Int)) (ha : S.1 (k + 4) d = -(m : Int) - 1) (hm : m < wd) {q : Nat} {y : Int} (hy : 0 ≤ y ∧ y < 1664) (hd2 : d < 832) : jl_162_14 Q k (w + 1) (x : Int) (q + 1) y S = jl_162_14 Q k (w + 1) (x : Int) q (y + 1) (ev_pI (ev_pI S k 10 (d : Int)) (k + 6) m (S.1 (k + 5) d)) := by
  obtain ⟨⟨⟨a3, a4, a5, a6, al, as⟩, ag⟩, ⟨r1, r2, r3⟩, ⟨e0, e7⟩, ⟨hpl, hn⟩, hI, hl, hE, ⟨k1, k2, k3, k4⟩, hw⟩ := hT
  have w0 : S.1 k 0 = (wd : Int) := (hF.1 k 0 (by omega) (by omega) (by omega) (by omega)).trans e0
  obtain ⟨X, hX⟩ : ∃ X, X = ev_pI S k 10 (d : Int) := ⟨_, rfl⟩
  have x10 : X.1 k 10 = (d : Int) := by rw [hX, rd_eq]
  have xr : ∀ c i, ¬ (c = k ∧ i = 10) → X.1 c i = S.1 c i := fun c i h => by rw [hX, sp_pI1, if_neg h]
  have x2 : X.2 = S.2 := by rw [hX]; rfl
  rw [l162, ← hX]
  unfold jb_162_14
  rw [if_neg (by omega)]
  try dsimp only
  rw [sp_b, hd, if_neg (by omega)]
  try dsimp only
  rw [sp_b, sp_ck (by omega), show ((d + 1 : Nat) : Int) - 1 = (d : Int) from by omega, sp_b, ← hX, sp_b, x10, sp_if (by omega), Int.toNat_natCast, sp_b, xr (k + 4) d (by omega), ha, sp_jn, if_neg (by omega)]
  try dsimp only
  rw [sp_ck (by omega), sp_ck (by omega), show -(-(m : Int) - 1) - 1 = (m : Int) from by omega, sp_b, xr k 0 (by omega), w0, sp_jn, if_neg (by omega)]
  try dsimp only
  rw [sp_b, sp_if (by omega), Int.toNat_natCast, sp_b, xr (k + 5) d (by omega), sp_if (by omega), Int.toNat_natCast, sp_b, sp_ck (by omega)]
theorem TRc_p (hR : TRc k l s wd n stamp A c out S) (hs : k + 8 ≤ s) (hl : k + 1 ≤ l ∧ l ≤ k + 2) (h1 : ∀ c i, ¬ (c = k ∧ i = 10) → ¬ ((c = k + 4 ∨ c = k + 5) ∧ i = d) → S2.1 c i = S.1 c i) : TRc k l s wd n stamp A c out S2 := ⟨fun i hi => by rw [h1 _ _ (by omega) (by omega)]; exact hR.1 i hi, fun j hj => by rw [h1 _ _ (by omega) (by omega)]; exact hR.2.1 j hj, by rw [h1 _ _ (by omega) (by omega)]; exact hR.2.2.1, fun i q e he => by
  obtain ⟨y1, y2⟩ := hR.2.2.2 i q e he
  rw [h1 _ _ (by omega) (by omega)]
  exact ⟨y1, fun j hj => by rw [h1 _ _ (by omega) (by omega)]; exact y2 j hj⟩⟩
end OQQ
