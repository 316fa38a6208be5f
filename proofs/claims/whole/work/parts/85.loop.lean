/-! THE LAW out of an invariant of Lean alone -/
/-- what a pass does, by the call's number -/
def la_arm (k Q L : Nat) (xs : Nat → Int32) (x1 : Int) (K : ev_St → Option (Int × ev_St)) (S : ev_St) : Option (Int × ev_St) := match k with
  | 0 => ja_188 Q L xs x1 K S
  | 1 => ja_244 Q L xs K S
  | 2 => ja_257 Q L xs x1 K S
  | 3 => ja_313 Q L xs K S
  | 4 => ja_357 Q L xs K S
  | 5 => ja_401 Q L xs x1 K S
  | 6 => ja_457 Q L xs x1 K S
  | 7 => ja_513 Q L xs x1 K S
  | 8 => ja_588 Q L xs x1 K S
  | 9 => ja_656 Q L xs x1 K S
  | 10 => ja_712 Q L xs x1 K S
  | 11 => ja_804 Q L xs x1 K S
  | 12 => ja_896 Q L xs x1 K S
  | 13 => ja_1000 Q L xs x1 K S
  | 14 => ja_1080 Q L xs x1 K S
  | 15 => ja_1160 Q L xs x1 K S
  | 16 => ja_1228 Q L xs x1 K S
  | 17 => ja_1308 Q L xs x1 K S
  | 18 => ja_1364 Q L xs x1 K S
  | 19 => ja_1420 Q L xs x1 K S
  | 20 => ja_1488 Q L xs x1 K S
  | 21 => ja_1580 Q L xs x1 K S
  | 22 => ja_1676 Q L xs x1 K S
  | 23 => ja_1732 Q L xs K S
  | 24 => ja_1776 Q L xs K S
  | 25 => ja_1820 Q L xs K S
  | 26 => ja_1864 Q L xs K S
  | 27 => ja_1908 Q L xs K S
  | 28 => ja_1952 Q L xs x1 K S
  | 29 => ja_2020 Q L xs x1 K S
  | 30 => ja_2104 Q L xs x1 K S
  | 31 => ja_2160 Q L xs x1 K S
  | 32 => ja_2216 Q L xs x1 K S
  | _ => K S
def la_chain (x12 : Int) (Q L : Nat) (xs : Nat → Int32) (x1 : Int) (K : ev_St → Option (Int × ev_St)) (S : ev_St) : Option (Int × ev_St) := if x12 = 0 then (ja_188 Q L xs x1 K S) else (if x12 = 1 then (ja_244 Q L xs K S) else (if x12 = 2 then (ja_257 Q L xs x1 K S) else (if x12 = 3 then (ja_313 Q L xs K S) else (if x12 = 4 then (ja_357 Q L xs K S) else (if x12 = 5 then (ja_401 Q L xs x1 K S) else (if x12 = 6 then (ja_457 Q L xs x1 K S) else (if x12 = 7 then (ja_513 Q L xs x1 K S) else (if x12 = 8 then (ja_588 Q L xs x1 K S) else (if x12 = 9 then (ja_656 Q L xs x1 K S) else (if x12 = 10 then (ja_712 Q L xs x1 K S) else (if x12 = 11 then (ja_804 Q L xs x1 K S) else (if x12 = 12 then (ja_896 Q L xs x1 K S) else (if x12 = 13 then (ja_1000 Q L xs x1 K S) else (if x12 = 14 then (ja_1080 Q L xs x1 K S) else (if x12 = 15 then (ja_1160 Q L xs x1 K S) else (if x12 = 16 then (ja_1228 Q L xs x1 K S) else (if x12 = 17 then (ja_1308 Q L xs x1 K S) else (if x12 = 18 then (ja_1364 Q L xs x1 K S) else (if x12 = 19 then (ja_1420 Q L xs x1 K S) else (if x12 = 20 then (ja_1488 Q L xs x1 K S) else (if x12 = 21 then (ja_1580 Q L xs x1 K S) else (if x12 = 22 then (ja_1676 Q L xs x1 K S) else (if x12 = 23 then (ja_1732 Q L xs K S) else (if x12 = 24 then (ja_1776 Q L xs K S) else (if x12 = 25 then (ja_1820 Q L xs K S) else (if x12 = 26 then (ja_1864 Q L xs K S) else (if x12 = 27 then (ja_1908 Q L xs K S) else (if x12 = 28 then (ja_1952 Q L xs x1 K S) else (if x12 = 29 then (ja_2020 Q L xs x1 K S) else (if x12 = 30 then (ja_2104 Q L xs x1 K S) else (if x12 = 31 then (ja_2160 Q L xs x1 K S) else (if x12 = 32 then (ja_2216 Q L xs x1 K S) else (K S)))))))))))))))))))))))))))))))))
theorem la_jb {Q L : Nat} {xs : Nat → Int32} {K : Int → ev_St → Option (Int × ev_St)} {x1 : Int} {S : ev_St} : jb_law_23 Q L xs K x1 S = ev_ck ((L : Int) - 6) fun x9 => if x9 < x1 then some (1, S) else ev_if (0 ≤ x1 ∧ x1 < (L : Int)) (la_chain (ev_iand (xs x1.toNat).toInt 63) Q L xs x1 (fun s => ev_ck (x1 + 6) fun x => K x s) S) := rfl
theorem la_chain_k {Q L : Nat} {xs : Nat → Int32} {x1 : Int} {K : ev_St → Option (Int × ev_St)} {S : ev_St} : ∀ k : Nat, k < 64 → la_chain (k : Int) Q L xs x1 K S = la_arm k Q L xs x1 K S
  | 0, _ => rfl
  | 1, _ => rfl
  | 2, _ => rfl
  | 3, _ => rfl
  | 4, _ => rfl
  | 5, _ => rfl
  | 6, _ => rfl
  | 7, _ => rfl
  | 8, _ => rfl
  | 9, _ => rfl
  | 10, _ => rfl
  | 11, _ => rfl
  | 12, _ => rfl
  | 13, _ => rfl
  | 14, _ => rfl
  | 15, _ => rfl
  | 16, _ => rfl
  | 17, _ => rfl
  | 18, _ => rfl
  | 19, _ => rfl
  | 20, _ => rfl
  | 21, _ => rfl
  | 22, _ => rfl
  | 23, _ => rfl
  | 24, _ => rfl
  | 25, _ => rfl
  | 26, _ => rfl
  | 27, _ => rfl
  | 28, _ => rfl
  | 29, _ => rfl
  | 30, _ => rfl
  | 31, _ => rfl
  | 32, _ => rfl
  | 33, _ => rfl
  | 34, _ => rfl
  | 35, _ => rfl
  | 36, _ => rfl
  | 37, _ => rfl
  | 38, _ => rfl
  | 39, _ => rfl
  | 40, _ => rfl
  | 41, _ => rfl
  | 42, _ => rfl
  | 43, _ => rfl
  | 44, _ => rfl
  | 45, _ => rfl
  | 46, _ => rfl
  | 47, _ => rfl
  | 48, _ => rfl
  | 49, _ => rfl
  | 50, _ => rfl
  | 51, _ => rfl
  | 52, _ => rfl
  | 53, _ => rfl
  | 54, _ => rfl
  | 55, _ => rfl
  | 56, _ => rfl
  | 57, _ => rfl
  | 58, _ => rfl
  | 59, _ => rfl
  | 60, _ => rfl
  | 61, _ => rfl
  | 62, _ => rfl
  | 63, _ => rfl
  | k + 64, h => absurd h (by omega)
/-- the call's number -/
def la_op (xs : Nat → Int32) (j : Nat) : Nat := (xs j &&& 63).toInt.toNat
theorem la_op_lt (xs : Nat → Int32) (j : Nat) : la_op xs j < 64 ∧ ev_iand (xs j).toInt 63 = (la_op xs j : Int) := by
  obtain ⟨k, hk, e⟩ := pk_andE (xs j) (m := 63) 6 (by decide +kernel)
  have e : xs j &&& 63 = Int32.ofNat k := e
  have h1 : (xs j &&& 63).toInt = (k : Int) := by
    rw [e]
    exact Int32.toInt_ofNat_of_lt (by omega)
  have h2 : la_op xs j = k := by
    unfold la_op
    rw [h1]
    rfl
  refine ⟨by omega, ?_⟩
  unfold ev_iand
  rw [ev_io, h2]
  exact h1
/-- the end of the loop -/
theorem la_end {Q L : Nat} {xs : Nat → Int32} {K : Int → ev_St → Option (Int × ev_St)} {j : Nat} {S : ev_St} (hL : L ≤ 3072) (hj : L < j + 6) : jb_law_23 Q L xs K (j : Int) S = some (1, S) := by
  rw [la_jb, sp_ck (by omega), if_pos (by omega)]
/-- a pass -/
theorem la_pass {Q L : Nat} {xs : Nat → Int32} {K : Int → ev_St → Option (Int × ev_St)} {j : Nat} {S : ev_St} (hL : L ≤ 3072) (hj : j + 6 ≤ L) : jb_law_23 Q L xs K (j : Int) S = la_arm (la_op xs j) Q L xs (j : Int) (fun s => K ((j + 6 : Nat) : Int) s) S := by
  rw [la_jb, sp_ck (by omega), if_neg (by omega), sp_if (by omega)]
  obtain ⟨h1, h2⟩ := la_op_lt xs j
  rw [Int.toNat_natCast, h2, la_chain_k _ h1]
  refine congrArg (fun f => la_arm (la_op xs j) Q L xs (j : Int) f S) (funext fun s => ?_)
  rw [sp_ck (by omega)]
  rfl
/-- THE LAW out of an invariant: I j S, before the call at the script's place j -/
theorem la_loop {Q L : Nat} {xs : Nat → Int32} {I : Nat → ev_St → Prop} (hL : L ≤ 3072) (hp : ∀ j S, j + 6 ≤ L → I j S → ∃ S2, I (j + 6) S2 ∧ ∀ K : ev_St → Option (Int × ev_St), la_arm (la_op xs j) Q L xs (j : Int) K S = K S2) : ∀ (m j : Nat) (S : ev_St), L < j + 6 * m + 6 → I j S → ∃ j' S', I j' S' ∧ jl_law_23 Q L xs (m + 1) (j : Int) S = some (1, S')
  | m, j, S, hm, hI => by
    show ∃ j' S', I j' S' ∧ jb_law_23 Q L xs (jl_law_23 Q L xs m) (j : Int) S = some (1, S')
    by_cases hj : L < j + 6
    · exact ⟨j, S, hI, la_end hL hj⟩
    · obtain ⟨S2, hI2, e⟩ := hp j S (by omega) hI
      cases m with
      | zero => omega
      | succ m =>
        obtain ⟨j', S', hI', e'⟩ := la_loop hL hp m (j + 6) S2 (by omega) hI2
        exact ⟨j', S', hI', by rw [la_pass hL (by omega), e]; exact e'⟩
/-- whole_start, out of an invariant of the numbers -/
theorem whole_of_inv {p : Program} {e : Env} {s : State} {m : MethodId} {below : List Frame} {meth : Method} {c : Code} (l : Launch) (hflags : l.flags = flags0) {b L : Nat} {xs : Nat → Int32} (hL : L ≤ 3072) (C0 : lw_At p s m meth c b L xs) {I : Nat → ev_St → Prop} (Q : Nat) (h0 : I 0 ev_S0) (hp : ∀ j S, j + 6 ≤ L → I j S → ∃ S2, I (j + 6) S2 ∧ ∀ K : ev_St → Option (Int × ev_St), la_arm (la_op xs j) (Q + 600) L xs (j : Int) K S = K S2) (hI : ∀ j S, I j S → ev_sC S ≤ 94866 ∧ ev_sZ S ≤ 8811508) : W p l e room_1 s m #[Value.ref b] below meth c s.heap [] 0 0 (lw_Z below #[Value.ref b] s) (entryFrame m ([Value.ref b] : List Value).toArray 7) := by
  obtain ⟨j', S', hI', e'⟩ := la_loop hL hp (Q + 599) 0 ev_S0 (by omega) h0
  obtain ⟨h1, h2⟩ := hI _ _ hI'
  exact whole_of_fun l hflags hL C0 (Q := Q + 600) e' h1 h2
