/-! TOOLS: what was written is read; loops with an invariant; quotients -/
theorem rd_eq {S : ev_St} {k f : Nat} {x : Int} : (ev_pI S k f x).1 k f = x := if_pos ⟨rfl, rfl⟩
theorem rd_nk {S : ev_St} {k f a b : Nat} {x : Int} (h : a ≠ k) : (ev_pI S k f x).1 a b = S.1 a b := if_neg (fun q => h q.1)
theorem rd_nf {S : ev_St} {k f a b : Nat} {x : Int} (h : b ≠ f) : (ev_pI S k f x).1 a b = S.1 a b := if_neg (fun q => h q.2)
/-- a loop of one number: each turn ends it, or goes on with a smaller measure -/
theorem lq1 {ρ σ : Type} {l : Nat → σ → ev_St → Option ρ} {b : (σ → ev_St → Option ρ) → σ → ev_St → Option ρ} (hl : ∀ q, l (q + 1) = b (l q)) (I : Nat → σ → ev_St → Prop) (P : Option ρ → Prop) (h : ∀ m x S, I m x S → (∃ r, P r ∧ ∀ K, b K x S = r) ∨ ∃ m' x' S', m' < m ∧ I m' x' S' ∧ ∀ K, b K x S = K x' S') : ∀ (q m : Nat) (x : σ) (S : ev_St), m < q → I m x S → P (l q x S)
  | 0, m, x, S, hq, _ => by omega
  | q + 1, m, x, S, hq, hI => by
    rw [hl]
    rcases h m x S hI with ⟨r, hr, e⟩ | ⟨m', x', S', hm, hI', e⟩
    · rw [e]
      exact hr
    · rw [e]
      exact lq1 hl I P h q m' x' S' (by omega) hI'
theorem sp_div {a k : Int} (h : 0 ≤ a ∧ a ≤ 2147483647) (hk : 0 < k ∧ k ≤ 2147483647) : ev_idiv a k = a / k := by
  unfold ev_idiv
  rw [Int32.toInt_div, ev_oi (show ev_rng a from ⟨by omega, by omega⟩), ev_oi (show ev_rng k from ⟨by omega, by omega⟩), Int.tdiv_eq_ediv_of_nonneg h.1]
  have h1 : 0 ≤ a / k := Int.ediv_nonneg h.1 (by omega)
  have h2 : a / k ≤ a := Int.ediv_le_self k h.1
  exact Int.bmod_eq_of_le (by omega) (by omega)
theorem sp_rem {a k : Int} (h : 0 ≤ a ∧ a ≤ 2147483647) (hk : 0 < k ∧ k ≤ 2147483647) : ev_irem a k = a % k := by
  have h1 : 0 ≤ a / k := Int.ediv_nonneg h.1 (by omega)
  have h2 : a / k ≤ a := Int.ediv_le_self k h.1
  have h3 : 0 ≤ a / k * k := Int.mul_nonneg h1 (by omega)
  have h4 : a / k * k ≤ a := by
    have := Int.mul_ediv_self_le (x := a) (k := k) (by omega)
    rw [Int.mul_comm]
    exact this
  have h5 : a % k = a - a / k * k := by
    rw [Int.mul_comm]
    exact Int.emod_def a k
  have e : (Int32.ofInt a / Int32.ofInt k).toInt = a / k := sp_div h hk
  unfold ev_irem
  rw [Int32.toInt_sub, Int32.toInt_mul, e, ev_oi (show ev_rng a from ⟨by omega, by omega⟩), ev_oi (show ev_rng k from ⟨by omega, by omega⟩), h5, Int.bmod_eq_of_le (n := a / k * k) (by omega) (by omega)]
  exact Int.bmod_eq_of_le (by omega) (by omega)
/-! the log's rows: made when first written -/
def lg_r (a : Nat) (S : ev_St) (i : Nat) : Int := if S.2.2.1 a (i / 1024) = 0 then 0 else S.1 (S.2.2.1 a (i / 1024) - 1) (i % 1024)
def lg_w (a : Nat) (b : Bool) (i : Nat) (x : Int) (S : ev_St) : ev_St := if S.2.2.1 a (i / 1024) = 0 then ev_pI (ev_pR (ev_nwc S b) a (i / 1024) (ev_sN S + 1)) (ev_sN S) (i % 1024) x else ev_pI S (S.2.2.1 a (i / 1024) - 1) (i % 1024) x
/-- how many rows there are -/
def lg_n (a : Nat) (S : ev_St) : Nat := (List.range 1024).countP (fun i => decide (S.2.2.1 a i ≠ 0))
def lg_W (S : ev_St) : Prop := 724 ≤ ev_sN S ∧ (∀ a i, a = 259 ∨ a = 260 → S.2.2.1 a i ≠ 0 → 725 ≤ S.2.2.1 a i ∧ S.2.2.1 a i ≤ ev_sN S) ∧ (∀ a i b j, a = 259 ∨ a = 260 → b = 259 ∨ b = 260 → S.2.2.1 a i ≠ 0 → S.2.2.1 a i = S.2.2.1 b j → a = b ∧ i = j) ∧ ev_sN S = 724 + lg_n 259 S + lg_n 260 S
theorem lg_cnt {f g : Nat → Bool} {i : Nat} (h : ∀ j, j ≠ i → f j = g j) (hf : f i = false) (hg : g i = true) : ∀ n, (List.range n).countP g = (List.range n).countP f + (if i < n then 1 else 0)
  | 0 => rfl
  | n + 1 => by
    rw [List.range_succ, List.countP_append, List.countP_append, lg_cnt h hf hg n]
    by_cases hi : i = n
    · subst hi
      simp [List.countP_cons, hf, hg]
    · have e : f n = g n := h n (by omega)
      simp only [List.countP_cons, List.countP_nil, e]
      by_cases h2 : i < n
      · rw [if_pos h2, if_pos (show i < n + 1 from by omega)]
        omega
      · rw [if_neg h2, if_neg (show ¬ i < n + 1 from by omega)]
        omega
theorem lg_n_le (a : Nat) (S : ev_St) : lg_n a S ≤ 1024 := by
  have := List.countP_le_length (p := fun i => decide (S.2.2.1 a i ≠ 0)) (l := List.range 1024)
  rw [List.length_range] at this
  exact this
theorem lg_n_c {a : Nat} {S T : ev_St} (h : ∀ i, S.2.2.1 a i = T.2.2.1 a i) : lg_n a S = lg_n a T := by
  unfold lg_n
  rw [show (fun i => decide (S.2.2.1 a i ≠ 0)) = fun i => decide (T.2.2.1 a i ≠ 0) from funext fun i => by rw [h]]
theorem lg_w_f {a i k g : Nat} {b : Bool} {x : Int} {S : ev_St} (hW : lg_W S) (ha : a = 259 ∨ a = 260) (hk : k < 724) : (lg_w a b i x S).1 k g = S.1 k g := by
  obtain ⟨w1, w2, w3, w4⟩ := hW
  unfold lg_w
  split
  · rw [rd_nk (by omega)]
    exact if_neg (by omega)
  · next h => rw [rd_nk (by have := w2 a _ ha h; omega)]
theorem lg_w_l {a i : Nat} {b : Bool} {x : Int} {S : ev_St} : (lg_w a b i x S).2.1 = S.2.1 := by
  unfold lg_w
  split <;> rfl
theorem lg_w_p {a i c j : Nat} {b : Bool} {x : Int} {S : ev_St} (h : c ≠ a) : (lg_w a b i x S).2.2.1 c j = S.2.2.1 c j := by
  unfold lg_w
  split
  · exact if_neg (fun q => h q.1)
  · rfl
theorem lg_w_r {a i c j : Nat} {b : Bool} {x : Int} {S : ev_St} (hW : lg_W S) (ha : a = 259 ∨ a = 260) (hc : c = 259 ∨ c = 260) : lg_r c (lg_w a b i x S) j = if c = a ∧ j = i then x else lg_r c S j := by
  obtain ⟨w1, w2, w3, w4⟩ := hW
  by_cases h : S.2.2.1 a (i / 1024) = 0
  · have e : lg_w a b i x S = ev_pI (ev_pR (ev_nwc S b) a (i / 1024) (ev_sN S + 1)) (ev_sN S) (i % 1024) x := if_pos h
    have e1 : ∀ c j, (lg_w a b i x S).2.2.1 c j = if c = a ∧ j = i / 1024 then ev_sN S + 1 else S.2.2.1 c j := fun c j => by rw [e]; rfl
    have e2 : ∀ k g, (lg_w a b i x S).1 k g = if k = ev_sN S ∧ g = i % 1024 then x else if k = ev_sN S then 0 else S.1 k g := fun k g => by rw [e]; rfl
    unfold lg_r
    rw [e1]
    by_cases h1 : c = a ∧ j / 1024 = i / 1024
    · rw [if_pos h1, if_neg (by omega), e2, h1.1]
      by_cases h2 : j = i
      · rw [if_pos ⟨by omega, by omega⟩, if_pos ⟨rfl, h2⟩]
      · rw [if_neg (fun q => by have := q.2; omega), if_pos (by omega), if_neg (fun q => h2 q.2), h1.2, if_pos h]
    · have h4 : ¬ (c = a ∧ j = i) := fun q => h1 ⟨q.1, by rw [q.2]⟩
      rw [if_neg h1, if_neg h4]
      by_cases h3 : S.2.2.1 c (j / 1024) = 0
      · rw [if_pos h3, if_pos h3]
      · have := w2 c _ hc h3
        rw [if_neg h3, if_neg h3, e2, if_neg (show ¬ (S.2.2.1 c (j / 1024) - 1 = ev_sN S ∧ j % 1024 = i % 1024) from fun q => by have := q.1; omega), if_neg (show ¬ (S.2.2.1 c (j / 1024) - 1 = ev_sN S) from by omega)]
  · have e : lg_w a b i x S = ev_pI S (S.2.2.1 a (i / 1024) - 1) (i % 1024) x := if_neg h
    rw [e]
    unfold lg_r
    show (if S.2.2.1 c (j / 1024) = 0 then 0 else (ev_pI S (S.2.2.1 a (i / 1024) - 1) (i % 1024) x).1 (S.2.2.1 c (j / 1024) - 1) (j % 1024)) = _
    have k1 := w2 a _ ha h
    by_cases h3 : S.2.2.1 c (j / 1024) = 0
    · rw [if_pos h3, if_neg (fun q => by rw [q.1, q.2] at h3; exact h h3), if_pos h3]
    · have k2 := w2 c _ hc h3
      rw [if_neg h3, if_neg h3, sp_pI1]
      by_cases h4 : c = a ∧ j = i
      · rw [if_pos (by rw [h4.1, h4.2]; exact ⟨rfl, rfl⟩), if_pos h4]
      · rw [if_neg (fun q => by
          obtain ⟨q1, q2⟩ := w3 c _ a _ hc ha h3 (show S.2.2.1 c (j / 1024) = S.2.2.1 a (i / 1024) by omega)
          exact h4 ⟨q1, by have := q.2; omega⟩), if_neg h4]
theorem lg_w_W {a i : Nat} {b : Bool} {x : Int} {S : ev_St} (hW : lg_W S) (ha : a = 259 ∨ a = 260) (hi : i / 1024 < 1024) : lg_W (lg_w a b i x S) := by
  have hW0 := hW
  obtain ⟨w1, w2, w3, w4⟩ := hW
  by_cases h : S.2.2.1 a (i / 1024) = 0
  · have e : lg_w a b i x S = ev_pI (ev_pR (ev_nwc S b) a (i / 1024) (ev_sN S + 1)) (ev_sN S) (i % 1024) x := if_pos h
    have e1 : ∀ c j, (lg_w a b i x S).2.2.1 c j = if c = a ∧ j = i / 1024 then ev_sN S + 1 else S.2.2.1 c j := fun c j => by rw [e]; rfl
    have e3 : ev_sN (lg_w a b i x S) = ev_sN S + 1 := by rw [e]; rfl
    refine ⟨by omega, fun c j hc h1 => ?_, fun c j d k hc hd h1 h2 => ?_, ?_⟩
    · rw [e1] at h1 ⊢
      rw [e3]
      split
      · omega
      · next h2 =>
        rw [if_neg h2] at h1
        have := w2 c j hc h1
        omega
    · rw [e1] at h1
      rw [e1, e1] at h2
      by_cases c1 : c = a ∧ j = i / 1024
      · rw [if_pos c1] at h2
        by_cases c2 : d = a ∧ k = i / 1024
        · exact ⟨by rw [c1.1, c2.1], by rw [c1.2, c2.2]⟩
        · rw [if_neg c2] at h2
          have := w2 d k hd (by omega)
          omega
      · rw [if_neg c1] at h1 h2
        have := w2 c j hc h1
        by_cases c2 : d = a ∧ k = i / 1024
        · rw [if_pos c2] at h2
          omega
        · rw [if_neg c2] at h2
          exact w3 c j d k hc hd h1 h2
    · have q : lg_n a (lg_w a b i x S) = lg_n a S + 1 := by
        have := lg_cnt (f := fun j => decide (S.2.2.1 a j ≠ 0)) (g := fun j => decide ((lg_w a b i x S).2.2.1 a j ≠ 0)) (i := i / 1024) (fun j hj => by rw [e1, if_neg (fun q => hj q.2)]) (by simp [h]) (by rw [e1, if_pos ⟨rfl, rfl⟩]; simp) 1024
        rw [if_pos hi] at this
        exact this
      rw [e3, w4]
      rcases ha with h1 | h1
      · rw [h1] at q ⊢
        rw [q, lg_n_c (a := 260) (fun j => lg_w_p (by decide))]
        omega
      · rw [h1] at q ⊢
        rw [q, lg_n_c (a := 259) (fun j => lg_w_p (by decide))]
        omega
  · have e : lg_w a b i x S = ev_pI S (S.2.2.1 a (i / 1024) - 1) (i % 1024) x := if_neg h
    rw [e]
    exact hW0
/-- cells and slots that are new -/
theorem lg_w_c {a i : Nat} {b : Bool} {x : Int} {S : ev_St} : ev_sC (lg_w a b i x S) + ev_sN S = ev_sC S + ev_sN (lg_w a b i x S) ∧ ev_sZ (lg_w a b i x S) + 1024 * ev_sN S = ev_sZ S + 1024 * ev_sN (lg_w a b i x S) := by
  unfold lg_w
  split
  · show ev_sC S + 1 + ev_sN S = ev_sC S + (ev_sN S + 1) ∧ ev_sZ S + 1024 + 1024 * ev_sN S = ev_sZ S + 1024 * (ev_sN S + 1)
    omega
  · exact ⟨rfl, rfl⟩
theorem sp_13 {Q : Nat} {a x : Int} {S : ev_St} (ha : 0 ≤ a ∧ a < 524288) : jm_13 Q a x S = some ((), lg_w 259 false a.toNat x S) := by
  have e1 := sp_div (a := a) (k := 1024) (by omega) (by omega)
  have e2 := sp_rem (a := a) (k := 1024) (by omega) (by omega)
  have e3 : (a / 1024).toNat = a.toNat / 1024 := by omega
  have e4 : (a % 1024).toNat = a.toNat % 1024 := by omega
  unfold jm_13 lg_w
  rw [e1, e2]
  simp (disch := first | omega | (simp (disch := omega) only [rd_eq, rd_nk, rd_nf]; omega)) only [↓sp_ck, ↓sp_if, ↓sp_b, ↓sp_bd, ↓sp_jn, ↓if_pos, ↓if_neg, rd_eq, rd_nk, rd_nf, e3, e4]
  split <;> rfl
theorem sp_14 {Q : Nat} {a : Int} {S : ev_St} (ha : 0 ≤ a ∧ a < 524288) : jm_14 Q a S = some (lg_r 259 S a.toNat, S) := by
  have e1 := sp_div (a := a) (k := 1024) (by omega) (by omega)
  have e2 := sp_rem (a := a) (k := 1024) (by omega) (by omega)
  have e3 : (a / 1024).toNat = a.toNat / 1024 := by omega
  have e4 : (a % 1024).toNat = a.toNat % 1024 := by omega
  unfold jm_14 lg_r
  rw [e1, e2]
  simp (disch := first | omega | (simp (disch := omega) only [rd_eq, rd_nk, rd_nf]; omega)) only [↓sp_ck, ↓sp_if, ↓sp_b, ↓sp_bd, ↓sp_jn, ↓if_pos, ↓if_neg, rd_eq, rd_nk, rd_nf, e3, e4]
  split <;> rfl
theorem sp_byte127 : ∀ k : Fin 127, ev_i2b ((k.1 : Nat) : Int) = ((k.1 : Nat) : Int) ∧ narrow .byte (.int (Int32.ofInt ((k.1 : Nat) : Int))) = .int (Int32.ofInt ((k.1 : Nat) : Int)) := by decide +kernel
theorem sp_byte {x : Int} (h : 0 ≤ x ∧ x < 127) : ev_i2b x = x ∧ narrow .byte (.int (Int32.ofInt x)) = .int (Int32.ofInt x) := by
  have e : x = ((x.toNat : Nat) : Int) := by omega
  rw [e]
  exact sp_byte127 ⟨x.toNat, by omega⟩
theorem sp_15 {Q : Nat} {a x : Int} {S : ev_St} (ha : 0 ≤ a ∧ a < 1048576) (hx : 0 ≤ x ∧ x < 127) : jm_15 Q a x S = some ((), lg_w 260 true a.toNat x S) := by
  have e1 := sp_div (a := a) (k := 1024) (by omega) (by omega)
  have e2 := sp_rem (a := a) (k := 1024) (by omega) (by omega)
  have e3 : (a / 1024).toNat = a.toNat / 1024 := by omega
  have e4 : (a % 1024).toNat = a.toNat % 1024 := by omega
  obtain ⟨e5, e6⟩ := sp_byte hx
  unfold jm_15 lg_w
  rw [e1, e2, e5]
  simp only [sp_b, sp_if e6]
  simp (disch := first | omega | (simp (disch := omega) only [rd_eq, rd_nk, rd_nf]; omega)) only [↓sp_ck, ↓sp_if, ↓sp_b, ↓sp_bd, ↓sp_jn, ↓if_pos, ↓if_neg, rd_eq, rd_nk, rd_nf, e3, e4]
  split <;> rfl
theorem sp_16 {Q : Nat} {a : Int} {S : ev_St} (ha : 0 ≤ a ∧ a < 1048576) : jm_16 Q a S = some (lg_r 260 S a.toNat, S) := by
  have e1 := sp_div (a := a) (k := 1024) (by omega) (by omega)
  have e2 := sp_rem (a := a) (k := 1024) (by omega) (by omega)
  have e3 : (a / 1024).toNat = a.toNat / 1024 := by omega
  have e4 : (a % 1024).toNat = a.toNat % 1024 := by omega
  unfold jm_16 lg_r
  rw [e1, e2]
  simp (disch := first | omega | (simp (disch := omega) only [rd_eq, rd_nk, rd_nf]; omega)) only [↓sp_ck, ↓sp_if, ↓sp_b, ↓sp_bd, ↓sp_jn, ↓if_pos, ↓if_neg, rd_eq, rd_nk, rd_nf, e3, e4]
  split <;> rfl
