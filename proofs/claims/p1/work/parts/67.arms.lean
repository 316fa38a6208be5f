/-! THE SWITCH: its arms -/
def ev_tgts : List Nat := [188, 244, 257, 313, 357, 401, 457, 513, 588, 656, 712, 804, 896, 1000, 1080, 1160, 1228, 1308, 1364, 1420, 1488, 1580, 1676, 1732, 1776, 1820, 1864, 1908, 1952, 2020, 2104, 2160, 2216]
def ev_tgt (j : Nat) : Nat := ev_tgts.getD j 2272
theorem ev_tsw_k (lv : List (Nat × Value)) : ∀ j : Nat, j ≤ 63 → ev_tsw 40 lv 2232 0 32 #[148, 204, 217, 273, 317, 361, 417, 473, 548, 616, 672, 764, 856, 960, 1040, 1120, 1188, 1268, 1324, 1380, 1448, 1540, 1636, 1692, 1736, 1780, 1824, 1868, 1912, 1980, 2064, 2120, 2176] [.int (Int32.ofNat j)] = some (ev_tgt j, lv, [])
  | 0, _ => rfl
  | 1, _ => rfl
  | 2, _ => rfl
  | 3, _ => rfl
  | 4, _ => rfl
  | 5, _ => rfl
  | 6, _ => rfl
  | 7, _ => rfl
  | 8, _ => rfl
  | 9, _ => rfl
  | 10, _ => rfl
  | 11, _ => rfl
  | 12, _ => rfl
  | 13, _ => rfl
  | 14, _ => rfl
  | 15, _ => rfl
  | 16, _ => rfl
  | 17, _ => rfl
  | 18, _ => rfl
  | 19, _ => rfl
  | 20, _ => rfl
  | 21, _ => rfl
  | 22, _ => rfl
  | 23, _ => rfl
  | 24, _ => rfl
  | 25, _ => rfl
  | 26, _ => rfl
  | 27, _ => rfl
  | 28, _ => rfl
  | 29, _ => rfl
  | 30, _ => rfl
  | 31, _ => rfl
  | 32, _ => rfl
  | 33, _ => rfl
  | 34, _ => rfl
  | 35, _ => rfl
  | 36, _ => rfl
  | 37, _ => rfl
  | 38, _ => rfl
  | 39, _ => rfl
  | 40, _ => rfl
  | 41, _ => rfl
  | 42, _ => rfl
  | 43, _ => rfl
  | 44, _ => rfl
  | 45, _ => rfl
  | 46, _ => rfl
  | 47, _ => rfl
  | 48, _ => rfl
  | 49, _ => rfl
  | 50, _ => rfl
  | 51, _ => rfl
  | 52, _ => rfl
  | 53, _ => rfl
  | 54, _ => rfl
  | 55, _ => rfl
  | 56, _ => rfl
  | 57, _ => rfl
  | 58, _ => rfl
  | 59, _ => rfl
  | 60, _ => rfl
  | 61, _ => rfl
  | 62, _ => rfl
  | 63, _ => rfl
  | k + 64, h => absurd h (by omega)
/-- an arm, as a hypothesis: from its first instruction to the loop's end, with the invariant; the call's number is k -/
def ev_Arm (L : Nat) (xs : Nat → Int32) (I : List ev_E → Nat → Nat → Nat → Nat → Prop) (k : Nat) : Prop := ∀ (lv : List (Nat × Value)) (h : List ev_E) (n nc ns j : Nat), ev_lvK lv → ev_lk lv 4 = some (.int (Int32.ofNat j)) → j + 6 ≤ L → I h n nc ns j →
  ∃ (q : Nat) (lv' : List (Nat × Value)) (h' : List ev_E) (n' nc' ns' : Nat), ev_stepn (ev_stepM ev_Mlaw 12 (some (L, xs))) q (ev_tgt k, lv, [], h, n, nc, ns) = some (2272, lv', [], h', n', nc', ns') ∧ ev_lvK lv' ∧ ev_lk lv' 4 = some (.int (Int32.ofNat j)) ∧ I h' n' nc' ns' (j + 6)
theorem ev_tgt_no {k : Nat} (hk : 33 ≤ k) : ev_tgt k = 2272 := by
  unfold ev_tgt ev_tgts
  rw [List.getD_eq_getElem?_getD, List.getElem?_eq_none (by simpa using hk)]
  rfl
theorem ev_pass_of {L : Nat} {xs : Nat → Int32} {I : List ev_E → Nat → Nat → Nat → Nat → Prop} (hL : L ≤ 3072) (hI : ∀ h n nc ns j, I h n nc ns j → I h n nc ns (j + 6)) (ha : ∀ k, k < 33 → ev_Arm L xs I k) : ev_Pass L xs I := by
  intro lv h n nc ns j hK h4 hj hI0
  obtain ⟨k, hk, e⟩ := pk_andE (xs (Int32.ofNat j).toNatClampNeg) (m := 63) 6 (by decide +kernel)
  have ht := ev_tsw_k lv k (by omega)
  have e2 : xs (Int32.ofNat j).toNatClampNeg &&& (Int8.ofInt 63).toInt32 = Int32.ofNat k := e
  rw [← e2] at ht
  have s0 := ev_arm (L := L) (xs := xs) (h := h) (n := n) (nc := nc) (ns := ns) hK h4 (ev_in_of (by omega) (by omega)) ht
  by_cases h33 : k < 33
  · obtain ⟨q, lv', h', n', nc', ns', s1, g1, g2, g3⟩ := ha k h33 lv h n nc ns j hK h4 hj hI0
    exact ⟨_, lv', h', n', nc', ns', ev_stepn_add s0 s1, g1, g2, g3⟩
  · rw [ev_tgt_no (by omega)] at s0
    exact ⟨_, lv, h, n, nc, ns, s0, hK, h4, hI _ _ _ _ _ hI0⟩
