/-! PROGRAMS: one turn of the reference's writing -/
section PROG16
variable {Q p e w g : Nat} {o x4 c : Int} {P V : ev_St} {K23 : Int → ev_St → Option (Unit × ev_St)} {JJ : Int → Int → ev_St → Option (Unit × ev_St)}
def G313 (Q : Nat) (a0 x4 x19 x21 x23 : Int) (P : ev_St) (K517 : Int → Int → ev_St → Option (Unit × ev_St)) : Option (Unit × ev_St) := if x19 ≠ 0 then (ev_jn (fun  (s59 : ev_St) => ev_jn (fun  (s67 : ev_St) => if x19 ≠ 1 then (if x19 ≠ 2 then (if x19 ≠ 3 then (if x19 ≠ 4 then (if x19 ≠ 5 then (if x19 ≠ 6 then (if x19 ≠ 7 then (if x19 ≠ 8 then (if x19 ≠ 9 then (if x19 ≠ 10 then (K517 x19 x21 s67) else (ev_if ((0 : Int) ≤ x21 ∧ x21 < (ev_aln 626 : Int)) (ev_b (s67.1 626 (Int.toNat x21)) fun x78 => if x78 = (-1) then (K517 x19 x21 s67) else (ev_if ((0 : Int) ≤ x21 ∧ x21 < (ev_aln 626 : Int)) (ev_b (s67.1 626 (Int.toNat x21)) fun x80 => ev_ck (x4 + x80) fun x81 => ev_bd (jm_310 Q 11 x81 0 s67) fun _ s82 => K517 x19 x21 s82))))) else (ev_ck (210 * a0) fun x83 => ev_ck (x83 + x23) fun x84 => ev_b (s67.1 621 54) fun x85 => ev_if ((0 : Int) ≤ x84 ∧ x84 < (ev_aln 663 : Int)) (ev_b (ev_pI s67 663 (Int.toNat x84) x85) fun s86 => K517 x19 x21 s86))) else (ev_bd (jm_309 Q a0 4 x23 0 s67) fun x88 s87 => K517 x19 x21 s87)) else (ev_bd (jm_309 Q a0 3 0 0 s67) fun x90 s89 => ev_ck (210 * a0) fun x91 => ev_ck (x91 + x23) fun x92 => ev_b (s89.1 621 54) fun x93 => ev_if ((0 : Int) ≤ x92 ∧ x92 < (ev_aln 664 : Int)) (ev_b (ev_pI s89 664 (Int.toNat x92) x93) fun s94 => ev_bd (jm_310 Q 9 x21 x90 s94) fun _ s95 => ev_if ((0 : Int) ≤ x21 ∧ x21 < (ev_aln 627 : Int)) (ev_b (s95.1 627 (Int.toNat x21)) fun x96 => ev_ck (x4 + x96) fun x97 => ev_bd (jm_310 Q 4 x97 0 s95) fun _ s98 => K517 x19 x21 s98)))) else (ev_bd (jm_312 Q a0 x21 x23 s67) fun _ s99 => K517 x19 x21 s99)) else (ev_bd (jm_309 Q a0 3 x23 0 s67) fun x101 s100 => ev_bd (jm_312 Q a0 x21 x23 s100) fun _ s102 => K517 x19 x21 s102)) else (ev_if ((0 : Int) ≤ x21 ∧ x21 < (ev_aln 627 : Int)) (ev_b (s67.1 627 (Int.toNat x21)) fun x103 => ev_jn (fun (x104 : Int) (s111 : ev_St) => ev_jn (fun  (s118 : ev_St) => ev_bd (jm_310 Q 10 x21 0 s118) fun _ s119 => K517 x19 x21 s119) fun K319 => if x104 = (-1) then (K319  s111) else (ev_bd (jm_310 Q 7 x21 x104 s111) fun _ s121 => K319  s121)) fun K301 => if x103 ≠ (-1) then (ev_b (s67.1 621 54) fun x123 => ev_ck (x123 + 1) fun x124 => ev_bd (jm_309 Q a0 2 x124 0 s67) fun x126 s125 => K301 x126 s125) else (K301 ((-1)) s67)))) else (ev_bd (jm_311 Q a0 x21 x23 s67) fun _ s127 => K517 x19 x21 s127)) else (ev_if ((0 : Int) ≤ x21 ∧ x21 < (ev_aln 626 : Int)) (ev_b (s67.1 626 (Int.toNat x21)) fun x128 => ev_ck (x4 + x128) fun x129 => ev_bd (jm_310 Q 4 x129 0 s67) fun _ s130 => K517 x19 x21 s130))) else (ev_bd (jm_310 Q 2 x21 0 s67) fun _ s131 => K517 x19 x21 s131)) fun K212 => if x19 ≠ 1 then (K212  s59) else (ev_if ((0 : Int) ≤ x21 ∧ x21 < (ev_aln 625 : Int)) (ev_b (s59.1 625 (Int.toNat x21)) fun x133 => if x133 ≠ 8 then (K212  s59) else (ev_if ((0 : Int) ≤ x21 ∧ x21 < (ev_aln 628 : Int)) (ev_b (s59.1 628 (Int.toNat x21)) fun x135 => ev_ck (2 * x135) fun x136 => ev_bd (jm_309 Q a0 4 x136 0 s59) fun x138 s137 => ev_if ((0 : Int) ≤ x21 ∧ x21 < (ev_aln 628 : Int)) (ev_b (s137.1 628 (Int.toNat x21)) fun x139 => ev_ck (2 * x139) fun x140 => ev_ck (x140 + 1) fun x141 => ev_bd (jm_310 Q 8 x21 x141 s137) fun _ s142 => ev_bd (jm_310 Q 2 x21 0 s142) fun _ s143 => K517 x19 x21 s143)))))) fun K147 => if x19 ≠ 1 then (K147  P) else (ev_if ((0 : Int) ≤ x21 ∧ x21 < (ev_aln 625 : Int)) (ev_b (P.1 625 (Int.toNat x21)) fun x145 => if 7 ≤ x145 then (K147  P) else (ev_if ((0 : Int) ≤ x21 ∧ x21 < (ev_aln 625 : Int)) (ev_b (P.1 625 (Int.toNat x21)) fun x147 => ev_jn (fun (x149 : Int) (x148 : Int) (s156 : ev_St) => ev_bd (jm_309 Q x148 x149 x21 0 s156) fun x158 s157 => K517 x19 x21 s157) fun K136 => if x147 ≠ 0 then (K136 1 a0 P) else (K136 0 a0 P)))))) else (ev_if ((0 : Int) ≤ x21 ∧ x21 < (ev_aln 630 : Int)) (ev_b (P.1 630 (Int.toNat x21)) fun x160 => ev_jn (fun (x161 : Int) (s168 : ev_St) => ev_bd (jm_310 Q x161 x21 0 s168) fun _ s169 => K517 x19 x21 s169) fun K93 => if x160 ≠ (-1) then (K93 3 P) else (K93 1 P)))
def t313 (Q : Nat) (K23 : Int → ev_St → Option (Unit × ev_St)) (x4 : Int) : Int → Int → ev_St → Option (Unit × ev_St) := fun (x24 : Int) (x25 : Int) (s32 : ev_St) => ev_jn (fun  (s37 : ev_St) => K23 x4 s37) fun K558 => if x24 ≠ 11 then (K558  s32) else (ev_if ((0 : Int) ≤ x25 ∧ x25 < (ev_aln 627 : Int)) (ev_b (s32.1 627 (Int.toNat x25)) fun x39 => ev_jn (fun  (s45 : ev_St) => ev_bd (jm_310 Q 0 x25 0 s45) fun _ s46 => K558  s46) fun K550 => if x39 = (-1) then (K550  s32) else (ev_if ((0 : Int) ≤ x25 ∧ x25 < (ev_aln 627 : Int)) (ev_b (s32.1 627 (Int.toNat x25)) fun x48 => ev_ck (x4 + x48) fun x49 => ev_bd (jm_310 Q 11 x49 0 s32) fun _ s50 => K550  s50))))
theorem psh_s {d : Nat} {t : T3} : (psh d t V).1 621 59 = ((d + 1 : Nat) : Int) := rd_eq
theorem emt_s {t : T3} : (emt p w t V).1 621 54 = ((w + 1 : Nat) : Int) := rd_eq
theorem pop313 {a0 : Int} (h : V.1 621 59 = ((e + 1 : Nat) : Int)) (he : e < 1200) (ht : rd3 666 667 668 e V (o, (g : Int), c)) : jb_313_23 Q a0 K23 x4 V = G313 Q a0 x4 o (g : Int) c (ev_pI V 621 59 (e : Int)) (t313 Q K23 x4) := by
  obtain ⟨_, _, _, _, l6, l7, l8⟩ := al66x
  obtain ⟨t1, t2, t3⟩ := ht
  unfold jb_313_23
  rw [sp_b, h, if_neg (by omega), sp_b, sp_ck (by omega), sp_b, show ((e + 1 : Nat) : Int) - 1 = (e : Int) from by omega, sp_b, rd_eq, sp_if (by rw [l6]; omega), sp_b, sp_b, sp_if (by rw [l7]; omega), sp_b, sp_b, sp_if (by rw [l8]; omega), sp_b, Int.toNat_natCast, rd_nk (by decide), rd_nk (by decide), rd_nk (by decide), t1, t2, t3]
  rfl
theorem tl_o (h : o ≠ 11) : t313 Q K23 x4 o (g : Int) V = K23 x4 V := by
  unfold t313
  rw [sp_jn, if_pos h]
theorem tl_11a (ho : o = 11) (hg : g < 4160) (h : V.1 621 59 = (e : Int)) (he : e + 1 < 1200) (z : V.1 627 g = -1) : t313 Q K23 x4 o (g : Int) V = K23 x4 (psh e (0, (g : Int), 0) V) := by
  obtain ⟨_, _, l27, _⟩ := al_K
  unfold t313
  rw [sp_jn, if_neg (fun y => y ho), sp_if (by rw [l27]; omega), sp_b, Int.toNat_natCast, sp_jn, if_pos z]
  try dsimp only
  rw [sp_310 h (by omega), sp_bd]
theorem tl_11b {s : Nat} (ho : o = 11) (hg : g < 4160) (h : V.1 621 59 = (e : Int)) (he : e + 1 < 1200) (z : V.1 627 g = (s : Int)) (hp : p < 12) (hs : s < 320) : t313 Q K23 (320 * (p : Int)) o (g : Int) V = K23 (320 * (p : Int)) (psh (e + 1) (0, (g : Int), 0) (psh e (11, ((320 * p + s : Nat) : Int), 0) V)) := by
  obtain ⟨_, _, l27, _⟩ := al_K
  unfold t313
  rw [sp_jn, if_neg (fun y => y ho), sp_if (by rw [l27]; omega), sp_b, Int.toNat_natCast, sp_jn, z, if_neg (by omega), sp_if (by rw [l27]; omega), sp_b, sp_ck (by omega), show 320 * (p : Int) + (s : Int) = ((320 * p + s : Nat) : Int) from by omega, sp_310 h (by omega), sp_bd]
  try dsimp only
  rw [sp_310 psh_s he, sp_bd]
theorem g_0a (ho : o = 0) (hg : g < 4160) (z : P.1 630 g = -1) (h : P.1 621 59 = (e : Int)) (he : e + 2 < 1200) : G313 Q (p : Int) x4 o (g : Int) c P JJ = JJ o (g : Int) (psh e (1, (g : Int), 0) P) := by
  obtain ⟨l25, l26, l27, l28, _, l30, l31, l32, _⟩ := al_K
  obtain ⟨_, l63, l64, _⟩ := al66x
  unfold G313
  rw [if_neg (fun y => y ho), sp_if (by rw [l30]; omega), sp_b, Int.toNat_natCast, sp_jn, if_neg (fun y => y z)]
  try dsimp only
  rw [sp_310 h (by omega), sp_bd]
theorem g_0b (ho : o = 0) (hg : g < 4160) (z : P.1 630 g ≠ -1) (h : P.1 621 59 = (e : Int)) (he : e + 2 < 1200) : G313 Q (p : Int) x4 o (g : Int) c P JJ = JJ o (g : Int) (psh e (3, (g : Int), 0) P) := by
  obtain ⟨l25, l26, l27, l28, _, l30, l31, l32, _⟩ := al_K
  obtain ⟨_, l63, l64, _⟩ := al66x
  unfold G313
  rw [if_neg (fun y => y ho), sp_if (by rw [l30]; omega), sp_b, Int.toNat_natCast, sp_jn, if_pos z]
  try dsimp only
  rw [sp_310 h (by omega), sp_bd]
theorem g_1a (ho : o = 1) (hg : g < 4160) {o2 : Int} (hk : P.1 625 g < 7) (ho2 : o2 = if P.1 625 g = 0 then 0 else 1) (h2 : P.1 621 54 = (w : Int)) (hw : 210 * p + w < 2520) : G313 Q (p : Int) x4 o (g : Int) c P JJ = JJ o (g : Int) (emt p w (o2, (g : Int), 0) P) := by
  obtain ⟨l25, l26, l27, l28, _, l30, l31, l32, _⟩ := al_K
  obtain ⟨_, l63, l64, _⟩ := al66x
  unfold G313
  rw [if_pos (show o ≠ 0 by omega), sp_jn, if_neg (fun y => y ho), sp_if (by rw [l25]; omega), sp_b, Int.toNat_natCast, if_neg (show ¬ (7 ≤ P.1 625 g) by omega), sp_if (by rw [l25]; omega), sp_b, sp_jn]
  by_cases z : P.1 625 g = 0
  · rw [if_pos z] at ho2
    rw [if_neg (fun y => y z)]
    try dsimp only
    rw [sp_309 h2 hw, sp_bd, ho2]
  · rw [if_neg z] at ho2
    rw [if_pos z]
    try dsimp only
    rw [sp_309 h2 hw, sp_bd, ho2]
theorem g_1o (ho : o = 1) (hg : g < 4160) (hk : 7 ≤ P.1 625 g ∧ P.1 625 g ≠ 8) (h : P.1 621 59 = (e : Int)) (he : e + 2 < 1200) : G313 Q (p : Int) x4 o (g : Int) c P JJ = JJ o (g : Int) (psh e (2, (g : Int), 0) P) := by
  obtain ⟨l25, l26, l27, l28, _, l30, l31, l32, _⟩ := al_K
  obtain ⟨_, l63, l64, _⟩ := al66x
  unfold G313
  rw [if_pos (show o ≠ 0 by omega), sp_jn, if_neg (fun y => y ho), sp_if (by rw [l25]; omega), sp_b, Int.toNat_natCast, if_pos hk.1]
  try dsimp only
  rw [sp_jn, if_neg (fun y => y ho), sp_if (by rw [l25]; omega), sp_b, if_pos hk.2]
  try dsimp only
  rw [if_neg (fun y => y ho), sp_310 h (by omega), sp_bd]
theorem g_1g (ho : o = 1) (hg : g < 4160) {j : Int} (hk : P.1 625 g = 8) (hj : P.1 628 g = j) (hj2 : 0 ≤ j ∧ j ≤ 9) (h2 : P.1 621 54 = (w : Int)) (hw : 210 * p + w < 2520) (h : P.1 621 59 = (e : Int)) (he : e + 2 < 1200) : G313 Q (p : Int) x4 o (g : Int) c P JJ = JJ o (g : Int) (psh (e + 1) (2, (g : Int), 0) (psh e (8, (g : Int), 2 * j + 1) (emt p w (4, 2 * j, 0) P))) := by
  obtain ⟨l25, l26, l27, l28, _, l30, l31, l32, _⟩ := al_K
  obtain ⟨_, l63, l64, _⟩ := al66x
  unfold G313
  rw [if_pos (show o ≠ 0 by omega), sp_jn, if_neg (fun y => y ho), sp_if (by rw [l25]; omega), sp_b, Int.toNat_natCast, if_pos (show 7 ≤ P.1 625 g by omega)]
  try dsimp only
  rw [sp_jn, if_neg (fun y => y ho), sp_if (by rw [l25]; omega), sp_b, if_neg (fun z => z hk), sp_if (by rw [l28]; omega), sp_b, hj, sp_ck (by omega), sp_309 h2 hw, sp_bd, sp_if (by rw [l28]; omega), sp_b, emt_o (by omega) (by omega), hj, sp_ck (by omega), sp_ck (by omega), sp_310 ((emt_o (by omega) (by omega)).trans h) (by omega), sp_bd, sp_310 psh_s (by omega), sp_bd]
/-- the way to the tasks behind 1 -/
theorem g_way (h0 : o ≠ 0) (h1 : o ≠ 1) : G313 Q (p : Int) x4 o (g : Int) c P JJ = (if o ≠ 2 then (if o ≠ 3 then (if o ≠ 4 then (if o ≠ 5 then (if o ≠ 6 then (if o ≠ 7 then (if o ≠ 8 then (if o ≠ 9 then (if o ≠ 10 then (JJ o (g : Int) P) else (ev_if ((0 : Int) ≤ (g : Int) ∧ (g : Int) < (ev_aln 626 : Int)) (ev_b (P.1 626 (Int.toNat (g : Int))) fun x78 => if x78 = (-1) then (JJ o (g : Int) P) else (ev_if ((0 : Int) ≤ (g : Int) ∧ (g : Int) < (ev_aln 626 : Int)) (ev_b (P.1 626 (Int.toNat (g : Int))) fun x80 => ev_ck (x4 + x80) fun x81 => ev_bd (jm_310 Q 11 x81 0 P) fun _ s82 => JJ o (g : Int) s82))))) else (ev_ck (210 * (p : Int)) fun x83 => ev_ck (x83 + c) fun x84 => ev_b (P.1 621 54) fun x85 => ev_if ((0 : Int) ≤ x84 ∧ x84 < (ev_aln 663 : Int)) (ev_b (ev_pI P 663 (Int.toNat x84) x85) fun s86 => JJ o (g : Int) s86))) else (ev_bd (jm_309 Q (p : Int) 4 c 0 P) fun x88 s87 => JJ o (g : Int) s87)) else (ev_bd (jm_309 Q (p : Int) 3 0 0 P) fun x90 s89 => ev_ck (210 * (p : Int)) fun x91 => ev_ck (x91 + c) fun x92 => ev_b (s89.1 621 54) fun x93 => ev_if ((0 : Int) ≤ x92 ∧ x92 < (ev_aln 664 : Int)) (ev_b (ev_pI s89 664 (Int.toNat x92) x93) fun s94 => ev_bd (jm_310 Q 9 (g : Int) x90 s94) fun _ s95 => ev_if ((0 : Int) ≤ (g : Int) ∧ (g : Int) < (ev_aln 627 : Int)) (ev_b (s95.1 627 (Int.toNat (g : Int))) fun x96 => ev_ck (x4 + x96) fun x97 => ev_bd (jm_310 Q 4 x97 0 s95) fun _ s98 => JJ o (g : Int) s98)))) else (ev_bd (jm_312 Q (p : Int) (g : Int) c P) fun _ s99 => JJ o (g : Int) s99)) else (ev_bd (jm_309 Q (p : Int) 3 c 0 P) fun x101 s100 => ev_bd (jm_312 Q (p : Int) (g : Int) c s100) fun _ s102 => JJ o (g : Int) s102)) else (ev_if ((0 : Int) ≤ (g : Int) ∧ (g : Int) < (ev_aln 627 : Int)) (ev_b (P.1 627 (Int.toNat (g : Int))) fun x103 => ev_jn (fun (x104 : Int) (s111 : ev_St) => ev_jn (fun  (s118 : ev_St) => ev_bd (jm_310 Q 10 (g : Int) 0 s118) fun _ s119 => JJ o (g : Int) s119) fun K319 => if x104 = (-1) then (K319  s111) else (ev_bd (jm_310 Q 7 (g : Int) x104 s111) fun _ s121 => K319  s121)) fun K301 => if x103 ≠ (-1) then (ev_b (P.1 621 54) fun x123 => ev_ck (x123 + 1) fun x124 => ev_bd (jm_309 Q (p : Int) 2 x124 0 P) fun x126 s125 => K301 x126 s125) else (K301 ((-1)) P)))) else (ev_bd (jm_311 Q (p : Int) (g : Int) c P) fun _ s127 => JJ o (g : Int) s127)) else (ev_if ((0 : Int) ≤ (g : Int) ∧ (g : Int) < (ev_aln 626 : Int)) (ev_b (P.1 626 (Int.toNat (g : Int))) fun x128 => ev_ck (x4 + x128) fun x129 => ev_bd (jm_310 Q 4 x129 0 P) fun _ s130 => JJ o (g : Int) s130))) := by
  unfold G313
  rw [if_pos h0, sp_jn, if_pos h1]
  try dsimp only
  rw [sp_jn, if_pos h1]
  try dsimp only
  rw [if_pos h1]
theorem g_2 (ho : o = 2) (hg : g < 4160) {s : Nat} (z : P.1 626 g = (s : Int)) (hp : p < 12) (hs : s < 320) (h : P.1 621 59 = (e : Int)) (he : e + 2 < 1200) : G313 Q (p : Int) (320 * (p : Int)) o (g : Int) c P JJ = JJ o (g : Int) (psh e (4, ((320 * p + s : Nat) : Int), 0) P) := by
  obtain ⟨l25, l26, l27, l28, _, l30, l31, l32, _⟩ := al_K
  obtain ⟨_, l63, l64, _⟩ := al66x
  rw [g_way (by omega) (by omega), if_neg (fun y => y ho), sp_if (by rw [l26]; omega), sp_b, Int.toNat_natCast, z, sp_ck (by omega), show 320 * (p : Int) + (s : Int) = ((320 * p + s : Nat) : Int) from by omega, sp_310 h (by omega), sp_bd]
theorem g_3 (ho : o = 3) (hg : g < 4160) (h3 : jm_311 Q (p : Int) (g : Int) c P = some ((), V)) : G313 Q (p : Int) x4 o (g : Int) c P JJ = JJ o (g : Int) V := by
  obtain ⟨l25, l26, l27, l28, _, l30, l31, l32, _⟩ := al_K
  obtain ⟨_, l63, l64, _⟩ := al66x
  rw [g_way (by omega) (by omega), if_pos (show o ≠ 2 by omega), if_neg (fun y => y ho), h3, sp_bd]
theorem g_4a (ho : o = 4) (hg : g < 4160) (z : P.1 627 g = -1) (h : P.1 621 59 = (e : Int)) (he : e + 2 < 1200) : G313 Q (p : Int) x4 o (g : Int) c P JJ = JJ o (g : Int) (psh e (10, (g : Int), 0) P) := by
  obtain ⟨l25, l26, l27, l28, _, l30, l31, l32, _⟩ := al_K
  obtain ⟨_, l63, l64, _⟩ := al66x
  rw [g_way (by omega) (by omega), if_pos (show o ≠ 2 by omega), if_pos (show o ≠ 3 by omega), if_neg (fun y => y ho), sp_if (by rw [l27]; omega), sp_b, Int.toNat_natCast, sp_jn, if_neg (fun y => y z)]
  try dsimp only
  rw [sp_jn, if_pos rfl]
  try dsimp only
  rw [sp_310 h (by omega), sp_bd]
theorem g_4b (ho : o = 4) (hg : g < 4160) (z : P.1 627 g ≠ -1) (h2 : P.1 621 54 = (w : Int)) (hw : 210 * p + w < 2520) (h : P.1 621 59 = (e : Int)) (he : e + 2 < 1200) : G313 Q (p : Int) x4 o (g : Int) c P JJ = JJ o (g : Int) (psh (e + 1) (10, (g : Int), 0) (psh e (7, (g : Int), (w : Int)) (emt p w (2, (w : Int) + 1, 0) P))) := by
  obtain ⟨l25, l26, l27, l28, _, l30, l31, l32, _⟩ := al_K
  obtain ⟨_, l63, l64, _⟩ := al66x
  rw [g_way (by omega) (by omega), if_pos (show o ≠ 2 by omega), if_pos (show o ≠ 3 by omega), if_neg (fun y => y ho), sp_if (by rw [l27]; omega), sp_b, Int.toNat_natCast, sp_jn, if_pos z, sp_b, h2, sp_ck (by omega), sp_309 h2 hw, sp_bd]
  try dsimp only
  rw [sp_jn, if_neg (by omega), sp_310 ((emt_o (by omega) (by omega)).trans h) (by omega), sp_bd]
  try dsimp only
  rw [sp_310 psh_s (by omega), sp_bd]
theorem g_5 (ho : o = 5) (hg : g < 4160) (h2 : P.1 621 54 = (w : Int)) (hw : 210 * p + w < 2520) (h3 : jm_312 Q (p : Int) (g : Int) c (emt p w (3, c, 0) P) = some ((), V)) : G313 Q (p : Int) x4 o (g : Int) c P JJ = JJ o (g : Int) V := by
  obtain ⟨l25, l26, l27, l28, _, l30, l31, l32, _⟩ := al_K
  obtain ⟨_, l63, l64, _⟩ := al66x
  rw [g_way (by omega) (by omega), if_pos (show o ≠ 2 by omega), if_pos (show o ≠ 3 by omega), if_pos (show o ≠ 4 by omega), if_neg (fun y => y ho), sp_309 h2 hw, sp_bd, h3, sp_bd]
theorem g_6 (ho : o = 6) (hg : g < 4160) (h3 : jm_312 Q (p : Int) (g : Int) c P = some ((), V)) : G313 Q (p : Int) x4 o (g : Int) c P JJ = JJ o (g : Int) V := by
  obtain ⟨l25, l26, l27, l28, _, l30, l31, l32, _⟩ := al_K
  obtain ⟨_, l63, l64, _⟩ := al66x
  rw [g_way (by omega) (by omega), if_pos (show o ≠ 2 by omega), if_pos (show o ≠ 3 by omega), if_pos (show o ≠ 4 by omega), if_pos (show o ≠ 5 by omega), if_neg (fun y => y ho), h3, sp_bd]
theorem g_7 (ho : o = 7) (hg : g < 4160) {a s : Nat} (hc : c = (a : Int)) (ha : a < 210) (z : P.1 627 g = (s : Int)) (hp : p < 12) (hs : s < 320) (h2 : P.1 621 54 = (w : Int)) (hw : 210 * p + w < 2520) (h : P.1 621 59 = (e : Int)) (he : e + 2 < 1200) : G313 Q (p : Int) (320 * (p : Int)) o (g : Int) c P JJ = JJ o (g : Int) (psh (e + 1) (4, ((320 * p + s : Nat) : Int), 0) (psh e (9, (g : Int), (w : Int)) (ev_pI (emt p w (3, 0, 0) P) 664 (210 * p + a) ((w + 1 : Nat) : Int)))) := by
  obtain ⟨l25, l26, l27, l28, _, l30, l31, l32, _⟩ := al_K
  obtain ⟨_, l63, l64, _⟩ := al66x
  subst hc
  rw [g_way (by omega) (by omega), if_pos (show o ≠ 2 by omega), if_pos (show o ≠ 3 by omega), if_pos (show o ≠ 4 by omega), if_pos (show o ≠ 5 by omega), if_pos (show o ≠ 6 by omega), if_neg (fun y => y ho), sp_309 h2 hw, sp_bd, sp_ck (by omega), sp_ck (by omega), sp_b, emt_s, sp_if (by rw [l64]; omega), sp_b, show (210 * (p : Int) + (a : Int)).toNat = 210 * p + a from by omega, sp_310 ((rd_nk (by omega)).trans ((emt_o (by omega) (by omega)).trans h)) (by omega), sp_bd, sp_if (by rw [l27]; omega), sp_b, Int.toNat_natCast, psh_o (by omega) (by omega), rd_nk (by omega), emt_o (by omega) (by omega), z, sp_ck (by omega), show 320 * (p : Int) + (s : Int) = ((320 * p + s : Nat) : Int) from by omega, sp_310 psh_s (by omega), sp_bd]
theorem g_8 (ho : o = 8) (hg : g < 4160) (h2 : P.1 621 54 = (w : Int)) (hw : 210 * p + w < 2520) : G313 Q (p : Int) x4 o (g : Int) c P JJ = JJ o (g : Int) (emt p w (4, c, 0) P) := by
  obtain ⟨l25, l26, l27, l28, _, l30, l31, l32, _⟩ := al_K
  obtain ⟨_, l63, l64, _⟩ := al66x
  rw [g_way (by omega) (by omega), if_pos (show o ≠ 2 by omega), if_pos (show o ≠ 3 by omega), if_pos (show o ≠ 4 by omega), if_pos (show o ≠ 5 by omega), if_pos (show o ≠ 6 by omega), if_pos (show o ≠ 7 by omega), if_neg (fun y => y ho), sp_309 h2 hw, sp_bd]
theorem g_9 (ho : o = 9) (hg : g < 4160) {a : Nat} (hc : c = (a : Int)) (ha : a < 210) (hp : p < 12) (h2 : P.1 621 54 = (w : Int)) (hw : 210 * p + w < 2520) : G313 Q (p : Int) x4 o (g : Int) c P JJ = JJ o (g : Int) (ev_pI P 663 (210 * p + a) (w : Int)) := by
  obtain ⟨l25, l26, l27, l28, _, l30, l31, l32, _⟩ := al_K
  obtain ⟨_, l63, l64, _⟩ := al66x
  subst hc
  rw [g_way (by omega) (by omega), if_pos (show o ≠ 2 by omega), if_pos (show o ≠ 3 by omega), if_pos (show o ≠ 4 by omega), if_pos (show o ≠ 5 by omega), if_pos (show o ≠ 6 by omega), if_pos (show o ≠ 7 by omega), if_pos (show o ≠ 8 by omega), if_neg (fun y => y ho), sp_ck (by omega), sp_ck (by omega), sp_b, h2, sp_if (by rw [l63]; omega), sp_b, show (210 * (p : Int) + (a : Int)).toNat = 210 * p + a from by omega]
theorem g_10a (ho : o = 10) (hg : g < 4160) (z : P.1 626 g = -1) : G313 Q (p : Int) x4 o (g : Int) c P JJ = JJ o (g : Int) P := by
  obtain ⟨l25, l26, l27, l28, _, l30, l31, l32, _⟩ := al_K
  obtain ⟨_, l63, l64, _⟩ := al66x
  rw [g_way (by omega) (by omega), if_pos (show o ≠ 2 by omega), if_pos (show o ≠ 3 by omega), if_pos (show o ≠ 4 by omega), if_pos (show o ≠ 5 by omega), if_pos (show o ≠ 6 by omega), if_pos (show o ≠ 7 by omega), if_pos (show o ≠ 8 by omega), if_pos (show o ≠ 9 by omega), if_neg (fun y => y ho), sp_if (by rw [l26]; omega), sp_b, Int.toNat_natCast, if_pos z]
theorem g_10b (ho : o = 10) (hg : g < 4160) {s : Nat} (z : P.1 626 g = (s : Int)) (hp : p < 12) (hs : s < 320) (h : P.1 621 59 = (e : Int)) (he : e + 2 < 1200) : G313 Q (p : Int) (320 * (p : Int)) o (g : Int) c P JJ = JJ o (g : Int) (psh e (11, ((320 * p + s : Nat) : Int), 0) P) := by
  obtain ⟨l25, l26, l27, l28, _, l30, l31, l32, _⟩ := al_K
  obtain ⟨_, l63, l64, _⟩ := al66x
  rw [g_way (by omega) (by omega), if_pos (show o ≠ 2 by omega), if_pos (show o ≠ 3 by omega), if_pos (show o ≠ 4 by omega), if_pos (show o ≠ 5 by omega), if_pos (show o ≠ 6 by omega), if_pos (show o ≠ 7 by omega), if_pos (show o ≠ 8 by omega), if_pos (show o ≠ 9 by omega), if_neg (fun y => y ho), sp_if (by rw [l26]; omega), sp_b, Int.toNat_natCast, z, if_neg (by omega), sp_if (by rw [l26]; omega), sp_b, sp_ck (by omega), show 320 * (p : Int) + (s : Int) = ((320 * p + s : Nat) : Int) from by omega, sp_310 h (by omega), sp_bd]
theorem g_11 (ho : o = 11) (hg : g < 4160)  : G313 Q (p : Int) x4 o (g : Int) c P JJ = JJ o (g : Int) P := by
  obtain ⟨l25, l26, l27, l28, _, l30, l31, l32, _⟩ := al_K
  obtain ⟨_, l63, l64, _⟩ := al66x
  rw [g_way (by omega) (by omega), if_pos (show o ≠ 2 by omega), if_pos (show o ≠ 3 by omega), if_pos (show o ≠ 4 by omega), if_pos (show o ≠ 5 by omega), if_pos (show o ≠ 6 by omega), if_pos (show o ≠ 7 by omega), if_pos (show o ≠ 8 by omega), if_pos (show o ≠ 9 by omega), if_pos (show o ≠ 10 by omega)]
/-- a fork's other way is told -/
theorem sp_312 {a : Nat} (hg : g < 4160) (hc : c = (a : Int)) (ha : a < 210) (hp : p < 12) : jm_312 Q (p : Int) (g : Int) c V = some ((), ev_pI V (if V.1 630 g = 1 then 663 else 664) (210 * p + a) (V.1 621 54)) := by
  obtain ⟨l25, l26, l27, l28, _, l30, l31, l32, _⟩ := al_K
  obtain ⟨_, l63, l64, _⟩ := al66x
  subst hc
  unfold jm_312
  rw [sp_if (by rw [l30]; omega), sp_b, Int.toNat_natCast]
  by_cases z : V.1 630 g = 1
  · rw [if_neg (fun y => y z), if_pos z, sp_ck (by omega), sp_ck (by omega), sp_b, sp_if (by rw [l63]; omega), sp_b, show (210 * (p : Int) + (a : Int)).toNat = 210 * p + a from by omega]
  · rw [if_pos z, if_neg z, sp_ck (by omega), sp_ck (by omega), sp_b, sp_if (by rw [l64]; omega), sp_b, show (210 * (p : Int) + (a : Int)).toNat = 210 * p + a from by omega]
theorem sp_311a {i : Nat} (hg : g < 4160) (hi : i < 30) (z : (i : Int) < P.1 631 g) (h : P.1 621 59 = (e : Int)) (he : e + 2 < 1200) : jm_311 Q (p : Int) (g : Int) (i : Int) P = some ((), psh (e + 1) (1, (g : Int), 0) (psh e (3, (g : Int), ((i + 1 : Nat) : Int)) P)) := by
  obtain ⟨l25, l26, l27, l28, _, l30, l31, l32, _⟩ := al_K
  unfold jm_311
  rw [sp_if (by rw [l31]; omega), sp_b, Int.toNat_natCast, if_neg (by omega), sp_ck (by omega), show (i : Int) + 1 = ((i + 1 : Nat) : Int) from by omega, sp_310 h (by omega), sp_bd, sp_310 psh_s (by omega), sp_bd]
theorem sp_311b {i : Nat} (hg : g < 4160) (z : P.1 631 g ≤ (i : Int)) (z2 : P.1 632 g ≠ -1) (z3 : P.1 632 g ≤ (i : Int)) : jm_311 Q (p : Int) (g : Int) (i : Int) P = some ((), P) := by
  obtain ⟨l25, l26, l27, l28, _, l30, l31, l32, _⟩ := al_K
  unfold jm_311
  rw [sp_if (by rw [l31]; omega), sp_b, Int.toNat_natCast, if_pos z, sp_if (by rw [l32]; omega), sp_b, sp_jn, if_neg z2, sp_if (by rw [l32]; omega), sp_b, if_pos z3]
theorem sp_311c {i : Nat} (hg : g < 4160) (z : P.1 631 g ≤ (i : Int)) (z2 : P.1 632 g = -1) (h : P.1 621 59 = (e : Int)) (he : e + 2 < 1200) (h2 : P.1 621 54 = (w : Int)) (hw : 210 * p + w < 2520) : jm_311 Q (p : Int) (g : Int) (i : Int) P = some ((), psh (e + 1) (1, (g : Int), 0) (psh e (5, (g : Int), (w : Int)) (emt p w (2, (w : Int) + 1, (w : Int) + 1) P))) := by
  obtain ⟨l25, l26, l27, l28, _, l30, l31, l32, _⟩ := al_K
  unfold jm_311
  rw [sp_if (by rw [l31]; omega), sp_b, Int.toNat_natCast, if_pos z, sp_if (by rw [l32]; omega), sp_b, sp_jn, if_pos z2]
  try dsimp only
  rw [sp_b, sp_ck (by omega), sp_b, sp_ck (by omega), h2, sp_309 h2 hw, sp_bd, sp_if (by rw [l32]; omega), sp_b, sp_jn, emt_o (by omega) (by omega), if_neg (fun y => y z2)]
  try dsimp only
  rw [sp_310 ((emt_o (by omega) (by omega)).trans h) (by omega), sp_bd, sp_if (by rw [l32]; omega), sp_b, sp_jn, psh_o (by omega) (by omega), emt_o (by omega) (by omega), if_pos z2]
  try dsimp only
  rw [sp_310 psh_s (by omega), sp_bd]
theorem sp_311d {i : Nat} (hg : g < 4160) (hi : i < 30) (z : P.1 631 g ≤ (i : Int)) (z2 : P.1 632 g ≠ -1) (z3 : (i : Int) < P.1 632 g) (h : P.1 621 59 = (e : Int)) (he : e + 2 < 1200) (h2 : P.1 621 54 = (w : Int)) (hw : 210 * p + w < 2520) : jm_311 Q (p : Int) (g : Int) (i : Int) P = some ((), psh (e + 1 + 1) (1, (g : Int), 0) (psh (e + 1) (3, (g : Int), ((i + 1 : Nat) : Int)) (psh e (6, (g : Int), (w : Int)) (emt p w (2, (w : Int) + 1, (w : Int) + 1) P)))) := by
  obtain ⟨l25, l26, l27, l28, _, l30, l31, l32, _⟩ := al_K
  unfold jm_311
  rw [sp_if (by rw [l31]; omega), sp_b, Int.toNat_natCast, if_pos z, sp_if (by rw [l32]; omega), sp_b, sp_jn, if_neg z2, sp_if (by rw [l32]; omega), sp_b, if_neg (by omega)]
  try dsimp only
  rw [sp_b, sp_ck (by omega), sp_b, sp_ck (by omega), h2, sp_309 h2 hw, sp_bd, sp_if (by rw [l32]; omega), sp_b, sp_jn, emt_o (by omega) (by omega), if_pos z2]
  try dsimp only
  rw [sp_310 ((emt_o (by omega) (by omega)).trans h) (by omega), sp_bd, sp_if (by rw [l32]; omega), sp_b, sp_jn, psh_o (by omega) (by omega), emt_o (by omega) (by omega), if_neg z2, sp_ck (by omega), show (i : Int) + 1 = ((i + 1 : Nat) : Int) from by omega, sp_310 psh_s (by omega), sp_bd]
  try dsimp only
  rw [sp_310 psh_s (by omega), sp_bd]
end PROG16
