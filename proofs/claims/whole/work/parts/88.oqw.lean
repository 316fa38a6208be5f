/-! ENGINES: the reference tries back -/
section OQW
variable {Q p n x d i pc f m len st r k j : Nat} {P : Nat → T3} {E : Nat → Int → Bool} {X : Nat → SNs} {lv A : SNs} {c : CPs} {V W : VSs} {nx : Nat → CPs → VSs → RSs} {S S0 S1 S2 T T0 T1 T2 : ev_St} {a b v : Int}
/-- what is still to be tried -/
def tot (n : Nat) (V : VSs) : Nat → Nat
  | 0 => 0
  | m + 1 => tot n V m + cnf (V m) n
theorem tot_o : ∀ m, (∀ j, j < m → V j = W j) → tot n V m = tot n W m := fun m => by
  induction m with
  | zero => exact fun _ => rfl
  | succ m ih =>
    intro h
    show tot n V m + cnf (V m) n = tot n W m + cnf (W m) n
    rw [ih (fun j hj => h j (by omega)), h m (Nat.lt_succ_self m)]
theorem tot_on (h : V k pc = false) (hp : pc < n) : ∀ m, k < m → tot n (onV V k pc) m + 1 = tot n V m := fun m => by
  induction m with
  | zero => exact fun z => absurd z (Nat.not_lt_zero _)
  | succ m ih =>
    intro hk
    show tot n (onV V k pc) m + cnf (onV V k pc m) n + 1 = tot n V m + cnf (V m) n
    by_cases e : k = m
    · subst e
      rw [tot_o (V := onV V k pc) (W := V) k (fun j hj => onV_j (by omega)), onV_k]
      have := cnf_on h n hp
      omega
    · have := ih (by omega)
      rw [onV_j (show m ≠ k by omega)]
      omega
theorem tot_le : ∀ m, tot n V m ≤ m * n := fun m => by
  induction m with
  | zero => exact Nat.zero_le _
  | succ m ih =>
    have := cnf_le (A := V m) n
    show tot n V m + cnf (V m) n ≤ (m + 1) * n
    rw [Nat.succ_mul]
    omega
theorem tot_c : cnf (V k) n ≤ tot n V (k + 1) := Nat.le_add_left _ _
/-- what a trial may change -/
def FRq (T0 T : ev_St) : Prop := (∀ c i, ¬ (c = 621 ∧ i = 81) → ¬ (669 ≤ c ∧ c ≤ 672) → T.1 c i = T0.1 c i) ∧ T.2 = T0.2
theorem FRq_r : FRq T T := ⟨fun _ _ _ _ => rfl, rfl⟩
theorem FRq_t (h1 : FRq T T1) (h2 : FRq T1 T2) : FRq T T2 := ⟨fun c i a b => (h2.1 c i a b).trans (h1.1 c i a b), h2.2.trans h1.2⟩
/-- what stands fixed -/
def RSt (Q p n len : Nat) (P : Nat → T3) (E : Nat → Int → Bool) (X : Nat → SNs) (T0 : ev_St) : Prop := (∀ i, i < n → T0.1 662 (210 * p + i) = (P i).1 ∧ T0.1 663 (210 * p + i) = (P i).2.1 ∧ T0.1 664 (210 * p + i) = (P i).2.2) ∧ (T0.1 621 73 = (len : Int) ∧ len ≤ 80 ∧ p < 12 ∧ n ≤ 210) ∧ (∀ i, i < n → (P i).1 = 0 → ∃ e : Nat, (P i).2.1 = (e : Int) ∧ e < 3840 ∧ ∀ x, x < len → ∃ b, jm_244 Q (T0.2.1 633 e) (T0.2.1 634 e) (T0.1 678 x) = (fun T => some (b, T)) ∧ (X x i = true ↔ b ≠ 0)) ∧ (∀ i, X len i = false) ∧ (∀ i x, i < n → (P i).1 = 1 → x ≤ len → ∀ T, FRq T0 T → T.1 621 81 = (x : Int) → jm_295 Q (P i).2.1 T = some (if E x (P i).2.1 = true then 1 else 0, T)) ∧ wfP P n
/-- seen, groups -/
def RRt (n : Nat) (V : VSs) (c : CPs) (T : ev_St) : Prop := (∀ i k, i < n → k ≤ 80 → T.1 669 (81 * i + k) = if V k i = true then 1 else 0) ∧ ∀ j, 1 ≤ j → j < 20 → T.1 672 j = c j
/-- from the entry at d on until it is done with -/
def RCr (Q p n start : Nat) (T0 : ev_St) (d : Nat) (T : ev_St) (V : VSs) (c : CPs) (R : RSs) : Prop := ∃ t T', t + 2 * tot n R.2 81 ≤ 1 + 2 * tot n V 81 ∧ (match R.1 with
  | none => (∀ q, jl_314_47 Q (start : Int) ((210 * p : Nat) : Int) (q + t) ((d + 1 : Nat) : Int) T = jl_314_47 Q (start : Int) ((210 * p : Nat) : Int) q (d : Int) T') ∧ RRt n R.2 c T' ∧ FRq T0 T' ∧ ∀ i, i < d → T'.1 670 i = T.1 670 i ∧ T'.1 671 i = T.1 671 i
  | some e => (∀ q, jl_314_47 Q (start : Int) ((210 * p : Nat) : Int) (q + t) ((d + 1 : Nat) : Int) T = some (1, T')) ∧ (∀ c i, ¬ (c = 621 ∧ i = 81) → ¬ (669 ≤ c ∧ c ≤ 672) → ¬ ((c = 679 ∨ c = 680) ∧ i = 0) → T'.1 c i = T0.1 c i) ∧ T'.2 = T0.2 ∧ T'.1 679 0 = (start : Int) ∧ T'.1 680 0 = (e.1 : Int) ∧ (∀ j, 1 ≤ j → j < 20 → T'.1 672 j = e.2 j) ∧ e.2 0 = c 0)
def SimR (Q p n start : Nat) (T0 : ev_St) (k : Nat) (nx : Nat → CPs → VSs → RSs) : Prop := ∀ pc c V T d, pc < n → RRt n V c T → FRq T0 T → T.1 670 d = (pc : Int) → T.1 671 d = (k : Int) → d + tot n V 81 ≤ 39000 → RCr Q p n start T0 d T V c (nx pc c V)
theorem l314 {q start : Nat} {y : Int} : jl_314_47 Q (start : Int) ((210 * p : Nat) : Int) (q + 1) y T = jb_314_47 Q (start : Int) ((210 * p : Nat) : Int) (jl_314_47 Q (start : Int) ((210 * p : Nat) : Int) q) y T := rfl
theorem al_314 : ev_aln 662 = 2520 ∧ ev_aln 663 = 2520 ∧ ev_aln 664 = 2520 ∧ ev_aln 669 = 17010 ∧ ev_aln 670 = 40000 ∧ ev_aln 671 = 40000 ∧ ev_aln 672 = 20 ∧ ev_aln 678 = 400 ∧ ev_aln 679 = 10 ∧ ev_aln 680 = 10 ∧ ev_aln 633 = 4160 ∧ ev_aln 634 = 4160 := by decide +kernel
/-- one turn: what has been tried -/
theorem r_skip (hS : RSt Q p n len P E X T0) (hR : RRt n V c T) (hF : FRq T0 T) (hp : pc < n) (hk : k ≤ len) (h1 : T.1 670 d = (pc : Int)) (h2 : T.1 671 d = (k : Int)) (hd : d < 39500) (hV : V k pc = true) {q start : Nat} : jl_314_47 Q (start : Int) ((210 * p : Nat) : Int) (q + 1) ((d + 1 : Nat) : Int) T = jl_314_47 Q (start : Int) ((210 * p : Nat) : Int) q (d : Int) T := by
  obtain ⟨a662, a663, a664, a669, a670, a671, a672, a678, a679, a680, a633, a634⟩ := al_314
  obtain ⟨_, ⟨_, l80, _, n210⟩, _⟩ := hS
  have e := hR.1 pc k hp (by omega)
  rw [if_pos hV] at e
  rw [l314]
  unfold jb_314_47
  rw [if_neg (by omega)]
  try dsimp only
  rw [sp_ck (by omega), show ((d + 1 : Nat) : Int) + (-1) = (d : Int) from by omega, a670, sp_if (by omega), Int.toNat_natCast, sp_b, h1, a671, sp_if (by omega), sp_b, h2, sp_jn, if_pos (by omega)]
  try dsimp only
  rw [sp_ck (by omega), sp_ck (by omega), a669, sp_if (by omega), show Int.toNat (81 * (pc : Int) + (k : Int)) = 81 * pc + k from by omega, sp_b, e, if_pos (by decide)]
/-- one turn: a slot gets back what it had -/
theorem r_back (h1 : T.1 670 d = -(m : Int) - 1) (hm : m < 20) (hd : d < 39500) {q start : Nat} : jl_314_47 Q (start : Int) ((210 * p : Nat) : Int) (q + 1) ((d + 1 : Nat) : Int) T = jl_314_47 Q (start : Int) ((210 * p : Nat) : Int) q (d : Int) (ev_pI T 672 m (T.1 671 d)) := by
  obtain ⟨a662, a663, a664, a669, a670, a671, a672, a678, a679, a680, a633, a634⟩ := al_314
  rw [l314]
  unfold jb_314_47
  rw [if_neg (by omega)]
  try dsimp only
  rw [sp_ck (by omega), show ((d + 1 : Nat) : Int) + (-1) = (d : Int) from by omega, a670, sp_if (by omega), Int.toNat_natCast, sp_b, h1, a671, sp_if (by omega), sp_b, sp_jn, if_neg (by omega)]
  try dsimp only
  rw [sp_ck (by omega), show (-1 : Int) - (-(m : Int) - 1) = (m : Int) from by omega, a672, sp_if (by omega), Int.toNat_natCast, sp_b]
/-- what is read of an instruction -/
theorem r_ins (hS : RSt Q p n len P E X T0) (hF : FRq T0 T) (hp : pc < n) : T.1 662 (210 * p + pc) = (P pc).1 ∧ T.1 663 (210 * p + pc) = (P pc).2.1 ∧ T.1 664 (210 * p + pc) = (P pc).2.2 := by
  obtain ⟨y1, y2, y3⟩ := hS.1 pc hp
  rw [hF.1 _ _ (by omega) (by omega), hF.1 _ _ (by omega) (by omega), hF.1 _ _ (by omega) (by omega)]
  exact ⟨y1, y2, y3⟩
theorem r_match (hS : RSt Q p n len P E X T0) (hR : RRt n V c T) (hF : FRq T0 T) (hp : pc < n) (hk : k ≤ len) (h1 : T.1 670 d = (pc : Int)) (h2 : T.1 671 d = (k : Int)) (hd : d < 39500) (hV : V k pc = false) (ho : (P pc).1 = 5) {q start : Nat} : jl_314_47 Q (start : Int) ((210 * p : Nat) : Int) (q + 1) ((d + 1 : Nat) : Int) T = some (1, ev_pI (ev_pI (ev_pI T 669 (81 * pc + k) 1) 679 0 (start : Int)) 680 0 (k : Int)) := by
  obtain ⟨a662, a663, a664, a669, a670, a671, a672, a678, a679, a680, a633, a634⟩ := al_314
  obtain ⟨_, ⟨_, l80, p12, n210⟩, _⟩ := id hS
  obtain ⟨o1, o2, o3⟩ := r_ins hS hF hp
  have e := hR.1 pc k hp (by omega)
  rw [if_neg (by rw [hV]; decide)] at e
  obtain ⟨T1, hT1⟩ : ∃ T1, T1 = ev_pI T 669 (81 * pc + k) 1 := ⟨_, rfl⟩
  have t1 : ∀ c i, c ≠ 669 → T1.1 c i = T.1 c i := fun c i h => by
    rw [hT1, rd_nk h]
  rw [l314]
  unfold jb_314_47
  rw [if_neg (by omega)]
  try dsimp only
  rw [sp_ck (by omega), show ((d + 1 : Nat) : Int) + (-1) = (d : Int) from by omega, a670, sp_if (by omega), Int.toNat_natCast, sp_b, h1, a671, sp_if (by omega), sp_b, h2, sp_jn, if_pos (by omega)]
  try dsimp only
  rw [sp_ck (by omega), sp_ck (by omega), a669, sp_if (by omega), show Int.toNat (81 * (pc : Int) + (k : Int)) = 81 * pc + k from by omega, sp_b, e, if_neg (by decide)]
  try dsimp only
  rw [sp_ck (by omega), sp_ck (by omega), sp_if (by omega), show Int.toNat (81 * (pc : Int) + (k : Int)) = 81 * pc + k from by omega, sp_b, ← hT1, sp_ck (by omega), a662, sp_if (by omega), show Int.toNat (((210 * p : Nat) : Int) + (pc : Int)) = 210 * p + pc from by omega, sp_b, t1 _ _ (by decide), o1, sp_ck (by omega), a663, sp_if (by omega), show Int.toNat (((210 * p : Nat) : Int) + (pc : Int)) = 210 * p + pc from by omega, sp_b, t1 _ _ (by decide), o2]
  rw [ho, if_neg (by decide)]
  try dsimp only
  rw [a679, sp_if (by omega), show Int.toNat (0 : Int) = 0 from rfl, sp_b, a680, sp_if (by omega), sp_b, hT1]
theorem r_jump (hS : RSt Q p n len P E X T0) (hR : RRt n V c T) (hF : FRq T0 T) (hp : pc < n) (hk : k ≤ len) (h1 : T.1 670 d = (pc : Int)) (h2 : T.1 671 d = (k : Int)) (hd : d < 39500) (hV : V k pc = false) (ho : (P pc).1 = 3) {u : Nat} (hu : (P pc).2.1 = (u : Int)) {q start : Nat} : jl_314_47 Q (start : Int) ((210 * p : Nat) : Int) (q + 1) ((d + 1 : Nat) : Int) T = jl_314_47 Q (start : Int) ((210 * p : Nat) : Int) q ((d + 1 : Nat) : Int) (ev_pI (ev_pI (ev_pI (ev_pI T 669 (81 * pc + k) 1) 621 81 (k : Int)) 670 d (u : Int)) 671 d (k : Int)) := by
  obtain ⟨a662, a663, a664, a669, a670, a671, a672, a678, a679, a680, a633, a634⟩ := al_314
  obtain ⟨_, ⟨_, l80, p12, n210⟩, _⟩ := id hS
  obtain ⟨o1, o2, o3⟩ := r_ins hS hF hp
  have e := hR.1 pc k hp (by omega)
  rw [if_neg (by rw [hV]; decide)] at e
  obtain ⟨T1, hT1⟩ : ∃ T1, T1 = ev_pI T 669 (81 * pc + k) 1 := ⟨_, rfl⟩
  have t1 : ∀ c i, c ≠ 669 → T1.1 c i = T.1 c i := fun c i h => by
    rw [hT1, rd_nk h]
  rw [l314]
  unfold jb_314_47
  rw [if_neg (by omega)]
  try dsimp only
  rw [sp_ck (by omega), show ((d + 1 : Nat) : Int) + (-1) = (d : Int) from by omega, a670, sp_if (by omega), Int.toNat_natCast, sp_b, h1, a671, sp_if (by omega), sp_b, h2, sp_jn, if_pos (by omega)]
  try dsimp only
  rw [sp_ck (by omega), sp_ck (by omega), a669, sp_if (by omega), show Int.toNat (81 * (pc : Int) + (k : Int)) = 81 * pc + k from by omega, sp_b, e, if_neg (by decide)]
  try dsimp only
  rw [sp_ck (by omega), sp_ck (by omega), sp_if (by omega), show Int.toNat (81 * (pc : Int) + (k : Int)) = 81 * pc + k from by omega, sp_b, ← hT1, sp_ck (by omega), a662, sp_if (by omega), show Int.toNat (((210 * p : Nat) : Int) + (pc : Int)) = 210 * p + pc from by omega, sp_b, t1 _ _ (by decide), o1, sp_ck (by omega), a663, sp_if (by omega), show Int.toNat (((210 * p : Nat) : Int) + (pc : Int)) = 210 * p + pc from by omega, sp_b, t1 _ _ (by decide), o2]
  rw [ho, hu, if_pos (by decide)]
  try dsimp only
  rw [sp_jn, if_pos (by decide)]
  try dsimp only
  rw [sp_b, sp_jn, sp_jn, if_neg (by decide)]
  try dsimp only
  rw [sp_jn, if_pos (by decide)]
  try dsimp only
  rw [sp_jn, if_pos (by decide)]
  try dsimp only
  rw [sp_jn, if_pos (by decide)]
  try dsimp only
  rw [sp_jn, if_neg (by decide)]
  try dsimp only
  rw [if_neg (by decide)]
  try dsimp only
  rw [if_neg (by decide)]
  try dsimp only
  rw [sp_jn, if_pos rfl]
  try dsimp only
  rw [a670, sp_if (by omega), Int.toNat_natCast, sp_b, sp_jn, if_pos (by decide)]
  try dsimp only
  rw [a671, sp_if (by omega), Int.toNat_natCast, sp_b, sp_ck (by omega), show (d : Int) + 1 = ((d + 1 : Nat) : Int) from by omega, hT1]
theorem r_fork (hS : RSt Q p n len P E X T0) (hR : RRt n V c T) (hF : FRq T0 T) (hp : pc < n) (hk : k ≤ len) (h1 : T.1 670 d = (pc : Int)) (h2 : T.1 671 d = (k : Int)) (hd : d < 39500) (hV : V k pc = false) (ho : (P pc).1 = 2) {u v : Nat} (hu : (P pc).2.1 = (u : Int)) (hv : (P pc).2.2 = (v : Int)) {q start : Nat} : jl_314_47 Q (start : Int) ((210 * p : Nat) : Int) (q + 1) ((d + 1 : Nat) : Int) T = jl_314_47 Q (start : Int) ((210 * p : Nat) : Int) q ((d + 2 : Nat) : Int) (ev_pI (ev_pI (ev_pI (ev_pI (ev_pI (ev_pI T 669 (81 * pc + k) 1) 621 81 (k : Int)) 670 d (v : Int)) 671 d (k : Int)) 670 (d + 1) (u : Int)) 671 (d + 1) (k : Int)) := by
  obtain ⟨a662, a663, a664, a669, a670, a671, a672, a678, a679, a680, a633, a634⟩ := al_314
  obtain ⟨_, ⟨_, l80, p12, n210⟩, _⟩ := id hS
  obtain ⟨o1, o2, o3⟩ := r_ins hS hF hp
  have e := hR.1 pc k hp (by omega)
  rw [if_neg (by rw [hV]; decide)] at e
  obtain ⟨T1, hT1⟩ : ∃ T1, T1 = ev_pI T 669 (81 * pc + k) 1 := ⟨_, rfl⟩
  have t1 : ∀ c i, c ≠ 669 → T1.1 c i = T.1 c i := fun c i h => by
    rw [hT1, rd_nk h]
  rw [l314]
  unfold jb_314_47
  rw [if_neg (by omega)]
  try dsimp only
  rw [sp_ck (by omega), show ((d + 1 : Nat) : Int) + (-1) = (d : Int) from by omega, a670, sp_if (by omega), Int.toNat_natCast, sp_b, h1, a671, sp_if (by omega), sp_b, h2, sp_jn, if_pos (by omega)]
  try dsimp only
  rw [sp_ck (by omega), sp_ck (by omega), a669, sp_if (by omega), show Int.toNat (81 * (pc : Int) + (k : Int)) = 81 * pc + k from by omega, sp_b, e, if_neg (by decide)]
  try dsimp only
  rw [sp_ck (by omega), sp_ck (by omega), sp_if (by omega), show Int.toNat (81 * (pc : Int) + (k : Int)) = 81 * pc + k from by omega, sp_b, ← hT1, sp_ck (by omega), a662, sp_if (by omega), show Int.toNat (((210 * p : Nat) : Int) + (pc : Int)) = 210 * p + pc from by omega, sp_b, t1 _ _ (by decide), o1, sp_ck (by omega), a663, sp_if (by omega), show Int.toNat (((210 * p : Nat) : Int) + (pc : Int)) = 210 * p + pc from by omega, sp_b, t1 _ _ (by decide), o2]
  rw [ho, hu, if_pos (by decide)]
  try dsimp only
  rw [sp_jn, if_pos (by decide)]
  try dsimp only
  rw [sp_b, sp_jn, sp_jn, if_neg (by decide)]
  try dsimp only
  rw [sp_jn, if_pos (by decide)]
  try dsimp only
  rw [sp_jn, if_pos (by decide)]
  try dsimp only
  rw [sp_jn, if_neg (by decide)]
  try dsimp only
  rw [sp_ck (by omega), a664, sp_if (by omega), show Int.toNat (((210 * p : Nat) : Int) + (pc : Int)) = 210 * p + pc from by omega, sp_b, rd_nk (by decide), t1 _ _ (by decide), o3, hv, sp_if (by omega), Int.toNat_natCast, sp_b, sp_if (by omega), sp_b, sp_ck (by omega), show (d : Int) + 1 = ((d + 1 : Nat) : Int) from by omega, sp_jn, if_neg (by decide)]
  try dsimp only
  rw [if_pos rfl]
  try dsimp only
  rw [sp_jn, if_pos rfl]
  try dsimp only
  rw [a670, sp_if (by omega), Int.toNat_natCast, sp_b, sp_jn, if_pos (by decide)]
  try dsimp only
  rw [a671, sp_if (by omega), Int.toNat_natCast, sp_b, sp_ck (by omega), show ((d + 1 : Nat) : Int) + 1 = ((d + 2 : Nat) : Int) from by omega, hT1]
theorem r_save (hS : RSt Q p n len P E X T0) (hR : RRt n V c T) (hF : FRq T0 T) (hp : pc < n) (hk : k ≤ len) (h1 : T.1 670 d = (pc : Int)) (h2 : T.1 671 d = (k : Int)) (hd : d < 39500) (hV : V k pc = false) (ho : (P pc).1 = 4) (hu : (P pc).2.1 = (m : Int)) (hm : m < 20) {q start : Nat} : jl_314_47 Q (start : Int) ((210 * p : Nat) : Int) (q + 1) ((d + 1 : Nat) : Int) T = jl_314_47 Q (start : Int) ((210 * p : Nat) : Int) q ((d + 2 : Nat) : Int) (ev_pI (ev_pI (ev_pI (ev_pI (ev_pI (ev_pI (ev_pI T 669 (81 * pc + k) 1) 670 d (-(m : Int) - 1)) 671 d (T.1 672 m)) 672 m (k : Int)) 621 81 (k : Int)) 670 (d + 1) ((pc + 1 : Nat) : Int)) 671 (d + 1) (k : Int)) := by
  obtain ⟨a662, a663, a664, a669, a670, a671, a672, a678, a679, a680, a633, a634⟩ := al_314
  obtain ⟨_, ⟨_, l80, p12, n210⟩, _⟩ := id hS
  obtain ⟨o1, o2, o3⟩ := r_ins hS hF hp
  have e := hR.1 pc k hp (by omega)
  rw [if_neg (by rw [hV]; decide)] at e
  obtain ⟨T1, hT1⟩ : ∃ T1, T1 = ev_pI T 669 (81 * pc + k) 1 := ⟨_, rfl⟩
  have t1 : ∀ c i, c ≠ 669 → T1.1 c i = T.1 c i := fun c i h => by
    rw [hT1, rd_nk h]
  rw [l314]
  unfold jb_314_47
  rw [if_neg (by omega)]
  try dsimp only
  rw [sp_ck (by omega), show ((d + 1 : Nat) : Int) + (-1) = (d : Int) from by omega, a670, sp_if (by omega), Int.toNat_natCast, sp_b, h1, a671, sp_if (by omega), sp_b, h2, sp_jn, if_pos (by omega)]
  try dsimp only
  rw [sp_ck (by omega), sp_ck (by omega), a669, sp_if (by omega), show Int.toNat (81 * (pc : Int) + (k : Int)) = 81 * pc + k from by omega, sp_b, e, if_neg (by decide)]
  try dsimp only
  rw [sp_ck (by omega), sp_ck (by omega), sp_if (by omega), show Int.toNat (81 * (pc : Int) + (k : Int)) = 81 * pc + k from by omega, sp_b, ← hT1, sp_ck (by omega), a662, sp_if (by omega), show Int.toNat (((210 * p : Nat) : Int) + (pc : Int)) = 210 * p + pc from by omega, sp_b, t1 _ _ (by decide), o1, sp_ck (by omega), a663, sp_if (by omega), show Int.toNat (((210 * p : Nat) : Int) + (pc : Int)) = 210 * p + pc from by omega, sp_b, t1 _ _ (by decide), o2]
  rw [ho, hu, if_pos (by decide)]
  try dsimp only
  rw [sp_jn, if_neg (by decide)]
  try dsimp only
  rw [sp_ck (by omega), show (-1 : Int) - (m : Int) = -(m : Int) - 1 from by omega, sp_if (by omega), Int.toNat_natCast, sp_b, a672, sp_if (by omega), Int.toNat_natCast, sp_b, rd_nk (by decide), t1 _ _ (by decide), sp_if (by omega), sp_b, sp_ck (by omega), show (d : Int) + 1 = ((d + 1 : Nat) : Int) from by omega, sp_if (by omega), sp_b]
  try dsimp only
  rw [sp_b, sp_jn, sp_jn, if_pos rfl]
  try dsimp only
  rw [sp_jn, if_pos (by decide)]
  try dsimp only
  rw [sp_jn, if_pos (by decide)]
  try dsimp only
  rw [sp_jn, if_neg (by decide)]
  try dsimp only
  rw [sp_ck (by omega), show (pc : Int) + 1 = ((pc + 1 : Nat) : Int) from by omega, a670, sp_if (by omega), Int.toNat_natCast, sp_b, sp_jn, if_pos (by decide)]
  try dsimp only
  rw [a671, sp_if (by omega), Int.toNat_natCast, sp_b, sp_ck (by omega), show ((d + 1 : Nat) : Int) + 1 = ((d + 2 : Nat) : Int) from by omega, hT1]
theorem r_edge (hS : RSt Q p n len P E X T0) (hR : RRt n V c T) (hF : FRq T0 T) (hp : pc < n) (hk : k ≤ len) (h1 : T.1 670 d = (pc : Int)) (h2 : T.1 671 d = (k : Int)) (hd : d < 39500) (hV : V k pc = false) (ho : (P pc).1 = 1) {q start : Nat} : (E k (P pc).2.1 = true → jl_314_47 Q (start : Int) ((210 * p : Nat) : Int) (q + 1) ((d + 1 : Nat) : Int) T = jl_314_47 Q (start : Int) ((210 * p : Nat) : Int) q ((d + 1 : Nat) : Int) (ev_pI (ev_pI (ev_pI (ev_pI T 669 (81 * pc + k) 1) 621 81 (k : Int)) 670 d ((pc + 1 : Nat) : Int)) 671 d (k : Int))) ∧ (¬ E k (P pc).2.1 = true → jl_314_47 Q (start : Int) ((210 * p : Nat) : Int) (q + 1) ((d + 1 : Nat) : Int) T = jl_314_47 Q (start : Int) ((210 * p : Nat) : Int) q (d : Int) (ev_pI (ev_pI T 669 (81 * pc + k) 1) 621 81 (k : Int))) := by
  obtain ⟨a662, a663, a664, a669, a670, a671, a672, a678, a679, a680, a633, a634⟩ := al_314
  obtain ⟨_, ⟨_, l80, p12, n210⟩, _, _, hE, _⟩ := id hS
  obtain ⟨o1, o2, o3⟩ := r_ins hS hF hp
  have e := hR.1 pc k hp (by omega)
  rw [if_neg (by rw [hV]; decide)] at e
  obtain ⟨T1, hT1⟩ : ∃ T1, T1 = ev_pI T 669 (81 * pc + k) 1 := ⟨_, rfl⟩
  have t1 : ∀ c i, c ≠ 669 → T1.1 c i = T.1 c i := fun c i h => by
    rw [hT1, rd_nk h]
  have he := hE pc k hp ho hk (ev_pI T1 621 81 (k : Int)) (FRq_t hF ⟨fun c i y1 y2 => by rw [sp_pI1, if_neg y1, t1 c i (by omega)], by rw [hT1]; rfl⟩) rd_eq
  have head : jl_314_47 Q (start : Int) ((210 * p : Nat) : Int) (q + 1) ((d + 1 : Nat) : Int) T = if (if E k (P pc).2.1 = true then (1 : Int) else 0) = 0 then jl_314_47 Q (start : Int) ((210 * p : Nat) : Int) q (d : Int) (ev_pI T1 621 81 (k : Int)) else jl_314_47 Q (start : Int) ((210 * p : Nat) : Int) q ((d + 1 : Nat) : Int) (ev_pI (ev_pI (ev_pI T1 621 81 (k : Int)) 670 d ((pc + 1 : Nat) : Int)) 671 d (k : Int)) := by
    rw [l314]
    unfold jb_314_47
    rw [if_neg (by omega)]
    try dsimp only
    rw [sp_ck (by omega), show ((d + 1 : Nat) : Int) + (-1) = (d : Int) from by omega, a670, sp_if (by omega), Int.toNat_natCast, sp_b, h1, a671, sp_if (by omega), sp_b, h2, sp_jn, if_pos (by omega)]
    try dsimp only
    rw [sp_ck (by omega), sp_ck (by omega), a669, sp_if (by omega), show Int.toNat (81 * (pc : Int) + (k : Int)) = 81 * pc + k from by omega, sp_b, e, if_neg (by decide)]
    try dsimp only
    rw [sp_ck (by omega), sp_ck (by omega), sp_if (by omega), show Int.toNat (81 * (pc : Int) + (k : Int)) = 81 * pc + k from by omega, sp_b, ← hT1, sp_ck (by omega), a662, sp_if (by omega), show Int.toNat (((210 * p : Nat) : Int) + (pc : Int)) = 210 * p + pc from by omega, sp_b, t1 _ _ (by decide), o1, sp_ck (by omega), a663, sp_if (by omega), show Int.toNat (((210 * p : Nat) : Int) + (pc : Int)) = 210 * p + pc from by omega, sp_b, t1 _ _ (by decide), o2]
    rw [ho, if_pos (by decide)]
    try dsimp only
    rw [sp_jn, if_pos (by decide)]
    try dsimp only
    rw [sp_b, sp_jn, sp_jn, if_neg (by decide)]
    try dsimp only
    rw [sp_jn, if_pos (by decide)]
    try dsimp only
    rw [sp_jn, if_neg (by decide)]
    try dsimp only
    rw [he, sp_bd]
    by_cases z : E k (P pc).2.1 = true
    · rw [if_pos z]
      try dsimp only
      rw [if_neg (by decide)]
      try dsimp only
      rw [if_neg (by decide)]
      try dsimp only
      rw [sp_jn, if_pos (by decide)]
      try dsimp only
      rw [sp_jn, if_pos (by decide)]
      try dsimp only
      rw [sp_jn, if_neg (by decide)]
      try dsimp only
      rw [sp_ck (by omega), show (pc : Int) + 1 = ((pc + 1 : Nat) : Int) from by omega, a670, sp_if (by omega), Int.toNat_natCast, sp_b, sp_jn, if_pos (by decide)]
      try dsimp only
      rw [a671, sp_if (by omega), Int.toNat_natCast, sp_b, sp_ck (by omega), show (d : Int) + 1 = ((d + 1 : Nat) : Int) from by omega]
    · rw [if_neg z]
      try dsimp only
      rw [if_pos rfl]
      try dsimp only
      rw [if_pos rfl]
      try dsimp only
      rw [sp_jn, if_pos (by decide)]
      try dsimp only
      rw [sp_jn, if_neg (by decide)]
      try dsimp only
      rw [if_neg (by decide)]
      try dsimp only
      rw [if_pos (by decide)]
  rw [hT1] at head
  exact ⟨fun z => by rw [head, if_pos z, if_neg (by decide)], fun z => by rw [head, if_neg z, if_pos rfl]⟩
theorem r_sign (hS : RSt Q p n len P E X T0) (hR : RRt n V c T) (hF : FRq T0 T) (hp : pc < n) (hk : k ≤ len) (h1 : T.1 670 d = (pc : Int)) (h2 : T.1 671 d = (k : Int)) (hd : d < 39500) (hV : V k pc = false) (ho : (P pc).1 = 0) {q start : Nat} : (X k pc = true → jl_314_47 Q (start : Int) ((210 * p : Nat) : Int) (q + 1) ((d + 1 : Nat) : Int) T = jl_314_47 Q (start : Int) ((210 * p : Nat) : Int) q ((d + 1 : Nat) : Int) (ev_pI (ev_pI (ev_pI (ev_pI T 669 (81 * pc + k) 1) 621 81 (k : Int)) 670 d ((pc + 1 : Nat) : Int)) 671 d ((k + 1 : Nat) : Int))) ∧ (¬ X k pc = true → jl_314_47 Q (start : Int) ((210 * p : Nat) : Int) (q + 1) ((d + 1 : Nat) : Int) T = jl_314_47 Q (start : Int) ((210 * p : Nat) : Int) q (d : Int) (ev_pI (ev_pI T 669 (81 * pc + k) 1) 621 81 (k : Int))) := by
  obtain ⟨a662, a663, a664, a669, a670, a671, a672, a678, a679, a680, a633, a634⟩ := al_314
  obtain ⟨_, ⟨l73, l80, p12, n210⟩, hX, hXl, _⟩ := id hS
  obtain ⟨o1, o2, o3⟩ := r_ins hS hF hp
  obtain ⟨f, f1, f2, f3⟩ := hX pc hp ho
  have e := hR.1 pc k hp (by omega)
  rw [if_neg (by rw [hV]; decide)] at e
  obtain ⟨T1, hT1⟩ : ∃ T1, T1 = ev_pI T 669 (81 * pc + k) 1 := ⟨_, rfl⟩
  have t1 : ∀ c i, c ≠ 669 → T1.1 c i = T.1 c i := fun c i h => by
    rw [hT1, rd_nk h]
  have head : ∀ b : Int, (X k pc = true ↔ (k < len ∧ b ≠ 0)) → (k < len → jm_244 Q (T0.2.1 633 f) (T0.2.1 634 f) (T0.1 678 k) = fun T => some (b, T)) → jl_314_47 Q (start : Int) ((210 * p : Nat) : Int) (q + 1) ((d + 1 : Nat) : Int) T = if X k pc = true then jl_314_47 Q (start : Int) ((210 * p : Nat) : Int) q ((d + 1 : Nat) : Int) (ev_pI (ev_pI (ev_pI T1 621 81 (k : Int)) 670 d ((pc + 1 : Nat) : Int)) 671 d ((k + 1 : Nat) : Int)) else jl_314_47 Q (start : Int) ((210 * p : Nat) : Int) q (d : Int) (ev_pI T1 621 81 (k : Int)) := fun b hb h244 => by
    rw [l314]
    unfold jb_314_47
    rw [if_neg (by omega)]
    try dsimp only
    rw [sp_ck (by omega), show ((d + 1 : Nat) : Int) + (-1) = (d : Int) from by omega, a670, sp_if (by omega), Int.toNat_natCast, sp_b, h1, a671, sp_if (by omega), sp_b, h2, sp_jn, if_pos (by omega)]
    try dsimp only
    rw [sp_ck (by omega), sp_ck (by omega), a669, sp_if (by omega), show Int.toNat (81 * (pc : Int) + (k : Int)) = 81 * pc + k from by omega, sp_b, e, if_neg (by decide)]
    try dsimp only
    rw [sp_ck (by omega), sp_ck (by omega), sp_if (by omega), show Int.toNat (81 * (pc : Int) + (k : Int)) = 81 * pc + k from by omega, sp_b, ← hT1, sp_ck (by omega), a662, sp_if (by omega), show Int.toNat (((210 * p : Nat) : Int) + (pc : Int)) = 210 * p + pc from by omega, sp_b, t1 _ _ (by decide), o1, sp_ck (by omega), a663, sp_if (by omega), show Int.toNat (((210 * p : Nat) : Int) + (pc : Int)) = 210 * p + pc from by omega, sp_b, t1 _ _ (by decide), o2]
    rw [ho, f1, if_pos (by decide)]
    try dsimp only
    rw [sp_jn, if_pos (by decide)]
    try dsimp only
    rw [sp_b, sp_jn, sp_jn, if_neg (by decide)]
    try dsimp only
    rw [sp_jn, if_neg (by decide)]
    try dsimp only
    rw [sp_b, rd_nf (by decide), t1 _ _ (by decide), hF.1 621 73 (by omega) (by omega), l73]
    by_cases z : k < len
    · rw [if_neg (by omega)]
      try dsimp only
      rw [a633, sp_if (by omega), Int.toNat_natCast, sp_b, a634, sp_if (by omega), sp_b, a678, sp_if (by omega), Int.toNat_natCast, sp_b]
      rw [show (ev_pI T1 621 81 (k : Int)).1 678 k = T0.1 678 k by rw [rd_nk (by decide), t1 _ _ (by decide), hF.1 678 k (by omega) (by omega)], show (ev_pI T1 621 81 (k : Int)).2.1 = T0.2.1 by rw [hT1]; show T.2.1 = _; rw [hF.2], h244 z, sp_bd]
      by_cases w : b ≠ 0
      · rw [if_pos w]
        try dsimp only
        rw [if_pos (hb.mpr ⟨z, w⟩)]
        try dsimp only
        rw [sp_jn, if_pos (by decide)]
        try dsimp only
        rw [sp_jn, if_pos (by decide)]
        try dsimp only
        rw [sp_jn, if_neg (by decide)]
        try dsimp only
        rw [sp_ck (by omega), show (pc : Int) + 1 = ((pc + 1 : Nat) : Int) from by omega, a670, sp_if (by omega), Int.toNat_natCast, sp_b, sp_jn, if_neg (by decide)]
        try dsimp only
        rw [sp_ck (by omega), show (k : Int) + 1 = ((k + 1 : Nat) : Int) from by omega, a671, sp_if (by omega), Int.toNat_natCast, sp_b, sp_ck (by omega), show (d : Int) + 1 = ((d + 1 : Nat) : Int) from by omega]
      · rw [if_neg w, if_neg (fun h => w (hb.mp h).2)]
        rw [sp_jn, if_pos (by decide)]
        try dsimp only
        rw [sp_jn, if_pos (by decide)]
        try dsimp only
        rw [sp_jn, if_neg (by decide)]
        try dsimp only
        rw [if_neg (by decide)]
        try dsimp only
        rw [if_pos (by decide)]
    · rw [if_pos (by omega), if_neg (fun h => z (hb.mp h).1)]
      rw [sp_jn, if_pos (by decide)]
      try dsimp only
      rw [sp_jn, if_pos (by decide)]
      try dsimp only
      rw [sp_jn, if_neg (by decide)]
      try dsimp only
      rw [if_neg (by decide)]
      try dsimp only
      rw [if_pos (by decide)]
  rw [hT1] at head
  by_cases z : k < len
  · obtain ⟨b, b1, b2⟩ := f3 k z
    have h := head b ⟨fun h => ⟨z, b2.mp h⟩, fun h => b2.mpr h.2⟩ (fun _ => b1)
    exact ⟨fun w => by rw [h, if_pos w], fun w => by rw [h, if_neg w]⟩
  · have h := head 0 ⟨fun h => absurd h (by rw [show k = len by omega, hXl]; decide), fun h => absurd h.1 z⟩ (fun w => absurd w z)
    exact ⟨fun w => by rw [h, if_pos w], fun w => by rw [h, if_neg w]⟩
end OQW
