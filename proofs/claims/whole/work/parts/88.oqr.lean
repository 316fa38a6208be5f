/-! ENGINES: the class follows an instruction -/
section OQR
variable {Q k g w l s wd n x d i pc f m t t2 : Nat} {P : Nat → T3} {E : Int → Bool} {lv A : SNs} {c : CPs} {out : LFs} {L : List INS} {S S0 S1 S2 T U : ev_St} {a b v stamp : Int} {z : INS}
/-- pushes alone -/
def PUc (k d : Nat) (S S2 : ev_St) : Prop := (∀ c i, ¬ (c = k ∧ i = 10) → ¬ ((c = k + 4 ∨ c = k + 5) ∧ d ≤ i) → S2.1 c i = S.1 c i) ∧ S2.2 = S.2
theorem PUc_F (hF : FTc k l s S0 S) (h : PUc k d S S2) : FTc k l s S0 S2 := FTc_t hF ⟨fun c i a b _ _ => h.1 c i (by omega) (by omega), h.2⟩
theorem PUc_R (hR : TRc k l s wd n stamp A c out S) (hs : k + 8 ≤ s) (hl : k + 1 ≤ l ∧ l ≤ k + 2) (h : PUc k d S S2) : TRc k l s wd n stamp A c out S2 := ⟨fun i hi => by rw [h.1 _ _ (by omega) (by omega)]; exact hR.1 i hi, fun j hj => by rw [h.1 _ _ (by omega) (by omega)]; exact hR.2.1 j hj, by rw [h.1 _ _ (by omega) (by omega)]; exact hR.2.2.1, fun i q e he => by
  obtain ⟨y1, y2⟩ := hR.2.2.2 i q e he
  rw [h.1 _ _ (by omega) (by omega)]
  exact ⟨y1, fun j hj => by rw [h.1 _ _ (by omega) (by omega)]; exact y2 j hj⟩⟩
/-- far, op, program as they are read -/
theorem tc_rd (hT : TST Q k g w l s wd n x L P E lv stamp S0) (hF : FTc k l s S0 S) (hz : L[pc]? = some z) (hp : pc < n) : S.2.2.1 k 11 = g + 1 ∧ S.1 (g + 2) pc = z.2.1 ∧ S.1 (g + 1) pc = z.1 ∧ n ≤ 208 ∧ (∀ i, S.1 (g + 5) i = S0.1 (g + 5) i) ∧ S.2.2.1 k 2 = l + 1 ∧ S.2.2.1 k 4 = s + 1 ∧ S.1 k 0 = (wd : Int) := by
  obtain ⟨q, q1, q2, q3⟩ := TST_n hT hp
  obtain ⟨⟨⟨a3, a4, a5, a6, al, as⟩, ag⟩, ⟨r1, r2, r3⟩, ⟨e0, e7⟩, ⟨hpl, hn⟩, hI, hl, hE, ⟨k1, k2, k3, k4⟩, hw⟩ := hT
  obtain ⟨p1, p2, p3⟩ := hpl.2.2 pc z hz
  refine ⟨by rw [hF.2]; exact r1, ?_, ?_, q3, fun i => hF.1 _ _ (by omega) (by omega) (by omega) (by omega), by rw [hF.2]; exact r2, by rw [hF.2]; exact r3, (hF.1 k 0 (by omega) (by omega) (by omega) (by omega)).trans e0⟩
  · rw [hF.1 (g + 2) pc (by omega) (by omega) (by omega) (by omega)]
    exact p2
  · rw [hF.1 (g + 1) pc (by omega) (by omega) (by omega) (by omega)]
    exact p1
theorem f_jump (hT : TST Q k g w l s wd n x L P E lv stamp S0) (hF : FTc k l s S0 S) (hz : L[pc]? = some z) (hp : pc < n) (ho : z.1 = 2) (ht : (pc : Int) + z.2.1 = (t : Int)) (ht2 : t < 300) (hd : S.1 k 10 = (d : Int)) (hd2 : d < 800) : ∃ S2, jm_163 Q k (pc : Int) (w + 1) (x : Int) S = some ((), S2) ∧ S2.1 k 10 = ((d + 1 : Nat) : Int) ∧ S2.1 (k + 4) d = (t : Int) ∧ PUc k d S S2 := by
  obtain ⟨e1, e2, e3, e4, _⟩ := tc_rd hT hF hz hp
  obtain ⟨⟨⟨a3, a4, a5, _⟩, ag⟩, _⟩ := hT
  obtain ⟨S2, p1, p2, p3, p4, p5, p6⟩ := t_push (Q := Q) (a := (t : Int)) (b := 0) a4 a5 hd (by omega)
  refine ⟨S2, ?_, p2, p3, fun c i y1 y2 => p5 c i y1 (by omega), p6⟩
  unfold jm_163
  rw [sp_b, e1, sp_if (by omega), show g + 1 - 1 = g from rfl, ag.2.1, sp_if (by omega), Int.toNat_natCast, sp_b, e2, sp_b, sp_if (by omega), show g + 1 - 1 = g from rfl, ag.1, sp_if (by omega), sp_b, e3, ho, if_neg (by decide)]
  try dsimp only
  rw [if_pos rfl]
  try dsimp only
  rw [sp_ck (by omega), ht, p1, sp_bd]
theorem f_fork (hT : TST Q k g w l s wd n x L P E lv stamp S0) (hF : FTc k l s S0 S) (hz : L[pc]? = some z) (hp : pc < n) (ho : (z.1 = 3 ∧ t = pc + 1 ∧ (pc : Int) + z.2.1 = (t2 : Int)) ∨ (z.1 = 4 ∧ t2 = pc + 1 ∧ (pc : Int) + z.2.1 = (t : Int))) (ht : t < 300 ∧ t2 < 300) (hd : S.1 k 10 = (d : Int)) (hd2 : d < 800) : ∃ S2, jm_163 Q k (pc : Int) (w + 1) (x : Int) S = some ((), S2) ∧ S2.1 k 10 = ((d + 2 : Nat) : Int) ∧ S2.1 (k + 4) (d + 1) = (t : Int) ∧ S2.1 (k + 4) d = (t2 : Int) ∧ PUc k d S S2 := by
  obtain ⟨e1, e2, e3, e4, _⟩ := tc_rd hT hF hz hp
  obtain ⟨⟨⟨a3, a4, a5, _⟩, ag⟩, _⟩ := hT
  obtain ⟨S1, p1, p2, p3, p4, p5, p6⟩ := t_push (Q := Q) (a := (t2 : Int)) (b := 0) a4 a5 hd (by omega)
  obtain ⟨S2, q1, q2, q3, q4, q5, q6⟩ := t_push (Q := Q) (a := (t : Int)) (b := 0) a4 a5 p2 (by omega)
  refine ⟨S2, ?_, q2, q3, by rw [q5 _ _ (by omega) (by omega)]; exact p3, fun c i y1 y2 => by rw [q5 c i y1 (by omega)]; exact p5 c i y1 (by omega), q6.trans p6⟩
  unfold jm_163
  rcases ho with ⟨h1, h2, h3⟩ | ⟨h1, h2, h3⟩
  · rw [sp_b, e1, sp_if (by omega), show g + 1 - 1 = g from rfl, ag.2.1, sp_if (by omega), Int.toNat_natCast, sp_b, e2, sp_b, sp_if (by omega), show g + 1 - 1 = g from rfl, ag.1, sp_if (by omega), sp_b, e3, h1, if_neg (by decide)]
    try dsimp only
    rw [if_neg (by decide)]
    try dsimp only
    rw [if_pos rfl]
    try dsimp only
    rw [sp_ck (by omega), h3, p1, sp_bd, sp_ck (by omega), show (pc : Int) + 1 = (t : Int) from by omega, q1, sp_bd]
  · rw [sp_b, e1, sp_if (by omega), show g + 1 - 1 = g from rfl, ag.2.1, sp_if (by omega), Int.toNat_natCast, sp_b, e2, sp_b, sp_if (by omega), show g + 1 - 1 = g from rfl, ag.1, sp_if (by omega), sp_b, e3, h1, if_neg (by decide)]
    try dsimp only
    rw [if_neg (by decide)]
    try dsimp only
    rw [if_neg (by decide)]
    try dsimp only
    rw [if_pos rfl]
    try dsimp only
    rw [sp_ck (by omega), show (pc : Int) + 1 = (t2 : Int) from by omega, p1, sp_bd, sp_ck (by omega), h3, q1, sp_bd]
theorem f_end (hT : TST Q k g w l s wd n x L P E lv stamp S0) (hF : FTc k l s S0 S) (hz : L[pc]? = some z) (hp : pc < n) (ho : z.1 = 1) (hd : S.1 k 10 = (d : Int)) (hd2 : d < 800) : (E (P pc).2.1 = true → ∃ S2, jm_163 Q k (pc : Int) (w + 1) (x : Int) S = some ((), S2) ∧ S2.1 k 10 = ((d + 1 : Nat) : Int) ∧ S2.1 (k + 4) d = ((pc + 1 : Nat) : Int) ∧ PUc k d S S2) ∧ (¬ E (P pc).2.1 = true → jm_163 Q k (pc : Int) (w + 1) (x : Int) S = some ((), S)) := by
  obtain ⟨e1, e2, e3, e4, _⟩ := tc_rd hT hF hz hp
  have he := hT.2.2.2.2.2.2.1 pc z hz ho S hF
  obtain ⟨⟨⟨a3, a4, a5, _⟩, ag⟩, _⟩ := hT
  have head : jm_163 Q k (pc : Int) (w + 1) (x : Int) S = ev_bd (jm_155 Q w z.2.1 (x : Int) S) fun x10 s9 => if x10 = 0 then (some ((), s9)) else (ev_ck ((pc : Int) + 1) fun x12 => ev_bd (jm_164 Q k x12 0 s9) fun _ s13 => some ((), s13)) := by
    unfold jm_163
    rw [sp_b, e1, sp_if (by omega), show g + 1 - 1 = g from rfl, ag.2.1, sp_if (by omega), Int.toNat_natCast, sp_b, e2, sp_b, sp_if (by omega), show g + 1 - 1 = g from rfl, ag.1, sp_if (by omega), sp_b, e3, ho, if_pos rfl]
    try dsimp only
    rw [sp_if (by omega), show w + 1 - 1 = w from rfl]
  rw [head, he, sp_bd]
  refine ⟨fun h => ?_, fun h => ?_⟩
  · obtain ⟨S2, p1, p2, p3, p4, p5, p6⟩ := t_push (Q := Q) (a := ((pc + 1 : Nat) : Int)) (b := 0) a4 a5 hd (by omega)
    refine ⟨S2, ?_, p2, p3, fun c i y1 y2 => p5 c i y1 (by omega), p6⟩
    rw [if_pos h]
    try dsimp only
    rw [if_neg (by decide)]
    try dsimp only
    rw [sp_ck (by omega), show (pc : Int) + 1 = ((pc + 1 : Nat) : Int) from by omega, p1, sp_bd]
  · rw [if_neg h, if_pos rfl]
theorem f_out (hT : TST Q k g w l s wd n x L P E lv stamp S0) (hF : FTc k l s S0 S) (hz : L[pc]? = some z) (hp : pc < n) (ho : z.1 = 5) (hm : z.2.1 = (m : Int)) (hw : wd ≤ m) (hd : S.1 k 10 = (d : Int)) (hd2 : d < 800) : ∃ S2, jm_163 Q k (pc : Int) (w + 1) (x : Int) S = some ((), S2) ∧ S2.1 k 10 = ((d + 1 : Nat) : Int) ∧ S2.1 (k + 4) d = ((pc + 1 : Nat) : Int) ∧ PUc k d S S2 := by
  obtain ⟨e1, e2, e3, e4, _, _, _, e8⟩ := tc_rd hT hF hz hp
  obtain ⟨⟨⟨a3, a4, a5, _⟩, ag⟩, _⟩ := hT
  obtain ⟨S2, p1, p2, p3, p4, p5, p6⟩ := t_push (Q := Q) (a := ((pc + 1 : Nat) : Int)) (b := 0) a4 a5 hd (by omega)
  refine ⟨S2, ?_, p2, p3, fun c i y1 y2 => p5 c i y1 (by omega), p6⟩
  unfold jm_163
  rw [sp_b, e1, sp_if (by omega), show g + 1 - 1 = g from rfl, ag.2.1, sp_if (by omega), Int.toNat_natCast, sp_b, e2, sp_b, sp_if (by omega), show g + 1 - 1 = g from rfl, ag.1, sp_if (by omega), sp_b, e3, ho, if_neg (by decide)]
  try dsimp only
  rw [if_neg (by decide)]
  try dsimp only
  rw [if_neg (by decide)]
  try dsimp only
  rw [if_neg (by decide)]
  try dsimp only
  rw [if_pos rfl]
  try dsimp only
  rw [sp_jn, hm, if_neg (by omega)]
  try dsimp only
  rw [sp_b, e8, if_pos (by omega)]
  try dsimp only
  rw [sp_ck (by omega), show (pc : Int) + 1 = ((pc + 1 : Nat) : Int) from by omega, p1, sp_bd]
theorem f_in (hT : TST Q k g w l s wd n x L P E lv stamp S0) (hF : FTc k l s S0 S) (hz : L[pc]? = some z) (hp : pc < n) (ho : z.1 = 5) (hm : z.2.1 = (m : Int)) (hw : m < wd) (hd : S.1 k 10 = (d : Int)) (hd2 : d < 800) : ∃ S1 S2, jm_163 Q k (pc : Int) (w + 1) (x : Int) S = some ((), S2) ∧ S2.1 k 10 = ((d + 2 : Nat) : Int) ∧ S2.1 (k + 4) (d + 1) = ((pc + 1 : Nat) : Int) ∧ S2.1 (k + 4) d = -(m : Int) - 1 ∧ S2.1 (k + 5) d = S.1 (k + 6) m ∧ PUc k d S S1 ∧ PUc k d (ev_pI S1 (k + 6) m (x : Int)) S2 := by
  obtain ⟨e1, e2, e3, e4, _, _, _, e8⟩ := tc_rd hT hF hz hp
  obtain ⟨⟨⟨a3, a4, a5, a6, _⟩, ag⟩, _, _, _, _, _, _, ⟨_, _, _, k4⟩, _⟩ := hT
  obtain ⟨S1, p1, p2, p3, p4, p5, p6⟩ := t_push (Q := Q) (a := -(m : Int) - 1) (b := S.1 (k + 6) m) a4 a5 hd (by omega)
  obtain ⟨X, hX⟩ : ∃ X, X = ev_pI S1 (k + 6) m (x : Int) := ⟨_, rfl⟩
  have x10 : X.1 k 10 = ((d + 1 : Nat) : Int) := by
    rw [hX, rd_nk (by omega)]
    exact p2
  obtain ⟨S2, q1, q2, q3, q4, q5, q6⟩ := t_push (Q := Q) (a := ((pc + 1 : Nat) : Int)) (b := 0) a4 a5 x10 (by omega)
  refine ⟨S1, S2, ?_, q2, q3, ?_, ?_, ⟨fun c i y1 y2 => p5 c i y1 (by omega), p6⟩, fun c i y1 y2 => by rw [← hX]; exact q5 c i y1 (by omega), by rw [← hX]; exact q6⟩
  · unfold jm_163
    rw [sp_b, e1, sp_if (by omega), show g + 1 - 1 = g from rfl, ag.2.1, sp_if (by omega), Int.toNat_natCast, sp_b, e2, sp_b, sp_if (by omega), show g + 1 - 1 = g from rfl, ag.1, sp_if (by omega), sp_b, e3, ho, if_neg (by decide)]
    try dsimp only
    rw [if_neg (by decide)]
    try dsimp only
    rw [if_neg (by decide)]
    try dsimp only
    rw [if_neg (by decide)]
    try dsimp only
    rw [if_pos rfl]
    try dsimp only
    rw [sp_jn, hm, if_neg (by omega)]
    try dsimp only
    rw [sp_b, e8, if_neg (by omega)]
    try dsimp only
    rw [sp_ck (by omega), sp_ck (by omega), a6, sp_if (by omega), Int.toNat_natCast, sp_b, p1, sp_bd, sp_if (by omega), sp_b, ← hX, sp_ck (by omega), show (pc : Int) + 1 = ((pc + 1 : Nat) : Int) from by omega, q1, sp_bd]
  · rw [q5 _ _ (by omega) (by omega), hX, rd_nk (by omega)]
    exact p3
  · rw [q5 _ _ (by omega) (by omega), hX, rd_nk (by omega)]
    exact p4
/-- a thread that waits for a character, or has come to the end -/
theorem f_leaf (hT : TST Q k g w l s wd n x L P E lv stamp S0) (hF : FTc k l s S0 S) (hR : TRc k l s wd n stamp A c out S) (hz : L[pc]? = some z) (hp : pc < n) (ho : z.1 = 0 ∨ z.1 = 6) (hc : out.length < 208) : (¬ lv pc = true → jm_163 Q k (pc : Int) (w + 1) (x : Int) S = some ((), S)) ∧ (lv pc = true → ∃ S2, jm_163 Q k (pc : Int) (w + 1) (x : Int) S = some ((), S2) ∧ TRc k l s wd n stamp A c (out ++ [(pc, c)]) S2 ∧ FTc k l s S0 S2 ∧ S2.1 k 10 = S.1 k 10 ∧ ∀ i, S2.1 (k + 4) i = S.1 (k + 4) i ∧ S2.1 (k + 5) i = S.1 (k + 5) i) := by
  obtain ⟨e1, e2, e3, e4, e5, e6, e7, e8⟩ := tc_rd hT hF hz hp
  obtain ⟨⟨⟨a3, a4, a5, a6, al, as⟩, ag⟩, _, _, _, _, hl, _, ⟨k1, k2, k3, k4⟩, _⟩ := hT
  have hl' := hl pc hp
  have cn := hR.2.2.1
  obtain ⟨r1, r2, r3, r4⟩ := hR
  have head : jm_163 Q k (pc : Int) (w + 1) (x : Int) S = if S0.1 (g + 5) pc = 0 then some ((), S) else (ev_b (S.1 k 15) fun x46 => if x46 < 0 then (some ((), S)) else (ev_b (S.1 k 15) fun x48 => if 208 ≤ x48 then (some ((), S)) else (ev_b (S.2.2.1 k 2) fun r50 => ev_b (S.1 k 15) fun x51 => ev_if (r50 ≠ 0) (ev_if ((0 : Int) ≤ x51 ∧ x51 < (ev_aln ((r50 - 1)) : Int)) (ev_b (ev_pI S ((r50 - 1)) (Int.toNat x51) (pc : Int)) fun s53 => ev_b (s53.2.2.1 k 4) fun r54 => ev_b (s53.1 k 0) fun x55 => ev_b (s53.1 k 15) fun x56 => ev_ck (x55 * x56) fun x57 => ev_b (s53.1 k 0) fun x58 => ev_if (r54 ≠ 0) (ev_if ((0 : Int) ≤ 0 ∧ (0 : Int) ≤ x57 ∧ (0 : Int) ≤ x58 ∧ 0 + x58 ≤ (ev_aln ((k + 6)) : Int) ∧ x57 + x58 ≤ (ev_aln ((r54 - 1)) : Int)) (ev_b (ev_cpI s53 ((k + 6)) ((r54 - 1)) (Int.toNat 0) (Int.toNat x57) (Int.toNat x58)) fun s59 => ev_b (s59.1 k 15) fun x61 => ev_ck (x61 + 1) fun x62 => ev_b (ev_pI s59 k 15 x62) fun s63 => some ((), s63)))))))) := by
    unfold jm_163
    rw [sp_b, e1, sp_if (by omega), show g + 1 - 1 = g from rfl, ag.2.1, sp_if (by omega), Int.toNat_natCast, sp_b, e2, sp_b, sp_if (by omega), show g + 1 - 1 = g from rfl, ag.1, sp_if (by omega), sp_b, e3, if_neg (by omega)]
    try dsimp only
    rw [if_neg (by omega)]
    try dsimp only
    rw [if_neg (by omega)]
    try dsimp only
    rw [if_neg (by omega)]
    try dsimp only
    rw [if_neg (by omega)]
    try dsimp only
    rw [sp_b, sp_if (by omega), show g + 1 - 1 = g from rfl, ag.2.2.2.2, sp_if (by omega), sp_b, e5]
  rw [head]
  refine ⟨fun h => ?_, fun h => ?_⟩
  · rw [if_pos (Classical.byContradiction fun q => h (hl'.mpr q))]
  · obtain ⟨X, hX⟩ : ∃ X, X = ev_pI S l out.length (pc : Int) := ⟨_, rfl⟩
    obtain ⟨Y, hY⟩ : ∃ Y, Y = ev_cpI X (k + 6) s 0 (wd * out.length) wd := ⟨_, rfl⟩
    have x0 : X.1 k 0 = (wd : Int) := by
      rw [hX, rd_nk (by omega)]
      exact e8
    have x15 : X.1 k 15 = (out.length : Int) := by
      rw [hX, rd_nk (by omega)]
      exact cn
    have yo : ∀ c i, c ≠ l → c ≠ s → Y.1 c i = S.1 c i := fun c i y1 y2 => by
      rw [hY, sp_cp1, if_neg (fun q => y2 q.1)]
      try dsimp only
      rw [hX, sp_pI1, if_neg (fun q => y1 q.1)]
    have y15 : Y.1 k 15 = (out.length : Int) := (yo _ _ (by omega) (by omega)).trans cn
    have mul : (wd : Int) * (out.length : Int) = ((wd * out.length : Nat) : Int) := by rw [Int.natCast_mul]
    have mb : wd * out.length + wd ≤ wd * 208 := by
      have : wd * (out.length + 1) ≤ wd * 208 := Nat.mul_le_mul_left wd (by omega)
      rw [Nat.mul_add, Nat.mul_one] at this
      exact this
    have w20 : wd * 208 ≤ 4160 := by
      rcases k4 with q | q <;> rw [q] <;> decide
    refine ⟨ev_pI Y k 15 ((out.length + 1 : Nat) : Int), ?_, ⟨fun i hi => ?_, fun j hj => ?_, ?_, fun i q e he => ?_⟩, FTc_t hF ⟨fun c i y1 y2 y3 y4 => ?_, ?_⟩, ?_, fun i => ⟨?_, ?_⟩⟩
    · rw [if_neg (hl'.mp h)]
      try dsimp only
      rw [sp_b, cn, if_neg (by omega)]
      try dsimp only
      rw [sp_b, if_neg (by omega)]
      try dsimp only
      rw [sp_b, e6, sp_b, sp_if (by omega), show l + 1 - 1 = l from rfl, al, sp_if (by omega), Int.toNat_natCast, sp_b, ← hX, sp_b]
      show (ev_b (X.1 k 0) fun x55 => ev_b (X.1 k 15) fun x56 => ev_ck (x55 * x56) fun x57 => ev_b (X.1 k 0) fun x58 => ev_if (X.2.2.1 k 4 ≠ 0) (ev_if ((0 : Int) ≤ 0 ∧ (0 : Int) ≤ x57 ∧ (0 : Int) ≤ x58 ∧ 0 + x58 ≤ (ev_aln ((k + 6)) : Int) ∧ x57 + x58 ≤ (ev_aln ((X.2.2.1 k 4 - 1)) : Int)) (ev_b (ev_cpI X ((k + 6)) ((X.2.2.1 k 4 - 1)) (Int.toNat 0) (Int.toNat x57) (Int.toNat x58)) fun s59 => ev_b (s59.1 k 15) fun x61 => ev_ck (x61 + 1) fun x62 => ev_b (ev_pI s59 k 15 x62) fun s63 => some ((), s63)))) = _
      rw [show X.2.2.1 k 4 = s + 1 by rw [hX]; exact e7, sp_b, x0, sp_b, x15, mul, sp_ck (by omega), sp_b, sp_if (by omega), show s + 1 - 1 = s from rfl, as, a6, sp_if (by omega), Int.toNat_natCast, Int.toNat_natCast, show Int.toNat (0 : Int) = 0 from rfl, sp_b, ← hY, sp_b, y15, sp_ck (by omega), sp_b]
      rfl
    · rw [rd_nk (by omega), yo _ _ (by omega) (by omega)]
      exact r1 i hi
    · rw [rd_nk (by omega), yo _ _ (by omega) (by omega)]
      exact r2 j hj
    · rw [rd_eq, List.length_append]
      rfl
    · have ls : l ≠ s := by omega
      have row : ∀ j, j < wd → wd * i + j = wd * i + j := fun _ _ => rfl
      by_cases hi : i < out.length
      · rw [List.getElem?_append_left hi] at he
        obtain ⟨y1, y2⟩ := r4 i q e he
        refine ⟨?_, fun j hj => ?_⟩
        · rw [rd_nk (by omega), hY, sp_cp1, if_neg (fun q => ls q.1)]
          try dsimp only
          rw [hX, sp_pI1, if_neg (by omega)]
          exact y1
        · have : wd * i + j < wd * out.length := by
            have h3 : wd * (i + 1) ≤ wd * out.length := Nat.mul_le_mul_left wd (by omega)
            rw [Nat.mul_add, Nat.mul_one] at h3
            omega
          rw [rd_nk (by omega), hY, sp_cp1, if_neg (by omega)]
          try dsimp only
          rw [hX, sp_pI1, if_neg (by omega)]
          exact y2 j hj
      · have hi2 : i < (out ++ [(pc, c)]).length := by
          apply Classical.byContradiction
          intro q
          rw [List.getElem?_eq_none (by omega)] at he
          cases he
        rw [List.length_append] at hi2
        have ei : i = out.length := by
          have : i < out.length + 1 := hi2
          omega
        subst ei
        rw [List.getElem?_append_right (Nat.le_refl _), Nat.sub_self] at he
        have e' : (pc, c) = (q, e) := Option.some.inj he
        obtain ⟨rfl, rfl⟩ := Prod.mk.inj e'
        refine ⟨?_, fun j hj => ?_⟩
        · rw [rd_nk (by omega), hY, sp_cp1, if_neg (fun q => ls q.1)]
          try dsimp only
          rw [hX, rd_eq]
        · rw [rd_nk (by omega), hY, sp_cp1, if_pos ⟨rfl, by omega, by omega⟩]
          try dsimp only
          rw [show 0 + (wd * out.length + j - wd * out.length) = j from by omega, hX, rd_nk (by omega)]
          exact r2 j hj
    · rw [sp_pI1, if_neg (by omega)]
      try dsimp only
      rw [yo c i y3 y4]
    · rw [hY, hX]
      rfl
    · rw [rd_nf (by omega), yo _ _ (by omega) (by omega)]
    · rw [rd_nk (by omega), yo _ _ (by omega) (by omega)]
    · rw [rd_nk (by omega), yo _ _ (by omega) (by omega)]
end OQR
